/-- the kinds of the fields of each kind of object -/
def zft : Nat → List Nat := fun c => match c with
  | 0 => [2, 2, 2, 2, 2, 2, 0, 0, 0]
  | 1 => [2, 2, 0]
  | 2 => [2, 2, 0, 0]
  | 3 => [2, 2, 2, 3]
  | 4 => [2, 2, 1]
  | 5 => [2, 2, 0, 0, 0]
  | 6 => [2, 2, 0, 0, 0, 0]
  | 7 => [2, 0]
  | 8 => [2, 2, 2, 0, 0]
  | 9 => [2, 2, 2, 0]
  | 10 => [2, 2, 2, 0, 0, 0, 3, 0, 0, 0]
  | 11 => [2, 2, 2, 2, 2, 2, 2, 2, 2, 2, 2, 2, 2, 2, 0, 0, 0, 0, 0, 0]
  | 12 => [0, 2, 2, 2, 2, 2, 0, 2, 0, 0, 3, 2, 2, 0, 0, 2, 2, 2, 0, 0, 0, 0, 0, 0, 3, 3, 2, 0, 0, 2, 2, 0, 2, 0, 0, 0, 0, 3, 3, 2, 2, 3, 0]
  | _ => []
def zsk : List Nat := [55, 61, 63, 65, 77, 79, 81, 85, 87, 89, 91, 93, 95, 97, 99, 101, 103, 105, 107, 109, 111, 113, 115, 117, 119, 121, 123, 125, 127]
def zstx : List String := ["if", "or", "and", "not", "costs", "bars", "node", "level", "child", "many", "key", "time", "mood", "put", "drop", "enter", "step", "park", "leave", "tick", "begin", "as", "times", "at", "value", "done", "latest", "waits", "graces"]
def zsln : List Nat := [2, 2, 3, 3, 5, 4, 4, 5, 5, 4, 3, 4, 4, 3, 4, 5, 4, 4, 5, 4, 5, 2, 5, 2, 5, 4, 6, 5, 6]
def zsby : List (List Int32) := [[105, 102], [111, 114], [97, 110, 100], [110, 111, 116], [99, 111, 115, 116, 115], [98, 97, 114, 115], [110, 111, 100, 101], [108, 101, 118, 101, 108], [99, 104, 105, 108, 100], [109, 97, 110, 121], [107, 101, 121], [116, 105, 109, 101], [109, 111, 111, 100], [112, 117, 116], [100, 114, 111, 112], [101, 110, 116, 101, 114], [115, 116, 101, 112], [112, 97, 114, 107], [108, 101, 97, 118, 101], [116, 105, 99, 107], [98, 101, 103, 105, 110], [97, 115], [116, 105, 109, 101, 115], [97, 116], [118, 97, 108, 117, 101], [100, 111, 110, 101], [108, 97, 116, 101, 115, 116], [119, 97, 105, 116, 115], [103, 114, 97, 99, 101, 115]]
def zNest : List Cond := [(Cond.methodLinkNest "GraceTree$World" 86 ({ cls := "GraceTree", name := "isProcessor", desc := "(I)Z" } : MethodName) "GraceTree"), (Cond.methodLinkNest "GraceTree$Cells" 46 ({ cls := "GraceTree", name := "isCell", desc := "(I)Z" } : MethodName) "GraceTree"), (Cond.methodLinkNest "GraceTree$World" 112 ({ cls := "GraceTree", name := "isCell", desc := "(I)Z" } : MethodName) "GraceTree"), (Cond.methodLinkNest "GraceTree$Clues" 43 ({ cls := "GraceTree", name := "bitOf", desc := "(II)I" } : MethodName) "GraceTree"), (Cond.methodLinkNest "GraceTree$Clues" 53 ({ cls := "GraceTree", name := "isCell", desc := "(I)Z" } : MethodName) "GraceTree")]
/-! the flat heap: what the system's cells hold, by abstract addresses 1, 2 ..; 0 is null -/
def zT : List Cond := lw_tbl.filter goodWord
theorem zT_mem {w : Cond} (i : Nat) (h : lw_tbl[i]? = some w) (hg : goodWord w = true) : w ∈ zT := List.mem_filter.mpr ⟨List.mem_of_getElem? h, hg⟩
def zWs (y : MethodName) (cc : ByteArray) (nL : Nat) (rt : Option FieldType) : List Cond := Cond.code y cc nL rt :: zT
theorem zGood {y y' : MethodName} {cc cc' : ByteArray} {nL nL' : Nat} {rt rt' : Option FieldType} (hy : Cond.code y' cc' nL' rt' ∈ zT) : GoodIn (zWs y cc nL rt) (zWs y' cc' nL' rt') := by
  intro w hw
  have h1 : w ∈ zT := by
    rcases List.mem_cons.mp hw with h | h
    · rw [h]; exact hy
    · exact h
  exact ⟨List.mem_cons_of_mem _ h1, good_of_word (List.mem_filter.mp h1).2⟩
abbrev zG : Type := Launch × va_G × (Nat → ClassId) × Nat × (Nat → Nat) × (Nat → Nat) × Nat × Nat × (Nat → Int32)
def zsb (G : zG) : Nat := G.2.2.2.2.2.2.1
def zsL (G : zG) : Nat := G.2.2.2.2.2.2.2.1
def zsX (G : zG) : Nat → Int32 := G.2.2.2.2.2.2.2.2
def zbase (G : zG) : Nat := G.2.2.2.1
def zA (G : zG) : Nat → Prop := fun q => zbase G < q
def zrf (G : zG) (a : Nat) : Value := if a = 0 then .null else .ref (zbase G + a)
def zro (G : zG) (a : Nat) : Option Nat := if a = 0 then none else some (zbase G + a)
theorem zro_rf (G : zG) (a : Nat) : va_rf (zro G a) = zrf G a := by
  unfold zro zrf
  by_cases h : a = 0
  · rw [if_pos h, if_pos h]; rfl
  · rw [if_neg h, if_neg h]; rfl
theorem zrf_pos (G : zG) {a : Nat} (h : a ≠ 0) : zrf G a = .ref (zbase G + a) := if_neg h
abbrev zS : Type := (Nat → Nat) × (Nat → Nat) × (Nat → Nat → Nat) × Nat × Nat
abbrev zH : Type := zS × (Nat → Nat → Int32) × (Nat → Nat → Int64)
def zsh (h : zH) (a : Nat) : Nat := h.1.1 a
def zln (h : zH) (a : Nat) : Nat := h.1.2.1 a
def zmr (h : zH) (a k : Nat) : Nat := h.1.2.2.1 a k
def znx (h : zH) : Nat := h.1.2.2.2.1
def zsl (h : zH) : Nat := h.1.2.2.2.2
def zmi (h : zH) (a : Nat) : Nat → Int32 := h.2.1 a
def zml (h : zH) (a : Nat) : Nat → Int64 := h.2.2 a
def zu {α : Type} (m : Nat → Nat → α) (a k : Nat) (v : α) : Nat → Nat → α := fun b => if b = a then fun j => if j = k then v else m a j else m b
def zrw {α : Type} (m : Nat → Nat → α) (a : Nat) (f : Nat → α) : Nat → Nat → α := fun b => if b = a then f else m b
def zsi (h : zH) (a k : Nat) (v : Int32) : zH := (h.1, zu h.2.1 a k v, h.2.2)
def zsg (h : zH) (a k : Nat) (v : Int64) : zH := (h.1, h.2.1, zu h.2.2 a k v)
def zsr (h : zH) (a k v : Nat) : zH := ((h.1.1, h.1.2.1, zu h.1.2.2.1 a k v, h.1.2.2.2), h.2)
def zri (h : zH) (a : Nat) (f : Nat → Int32) : zH := (h.1, zrw h.2.1 a f, h.2.2)
def zup (f : Nat → Nat) (a v : Nat) : Nat → Nat := fun b => if b = a then v else f b
def znw (h : zH) (c n sl : Nat) : zH := ((zup h.1.1 (znx h + 1) c, zup h.1.2.1 (znx h + 1) n, zrw h.1.2.2.1 (znx h + 1) (fun _ => 0), znx h + 1, zsl h + sl), zrw h.2.1 (znx h + 1) (fun _ => 0), zrw h.2.2 (znx h + 1) (fun _ => 0))
theorem zu_ne {α : Type} {m : Nat → Nat → α} {a k b : Nat} {v : α} (h : b ≠ a) : zu m a k v b = m b := if_neg h
theorem zu_eq {α : Type} {m : Nat → Nat → α} {a k : Nat} {v : α} : zu m a k v a = fun j => if j = k then v else m a j := if_pos rfl
theorem zrw_ne {α : Type} {m : Nat → Nat → α} {a b : Nat} {f : Nat → α} (h : b ≠ a) : zrw m a f b = m b := if_neg h
theorem zrw_eq {α : Type} {m : Nat → Nat → α} {a : Nat} {f : Nat → α} : zrw m a f a = f := if_pos rfl
theorem zup_ne {f : Nat → Nat} {a b v : Nat} (h : b ≠ a) : zup f a v b = f b := if_neg h
theorem zup_eq {f : Nat → Nat} {a v : Nat} : zup f a v a = v := if_pos rfl
/-- the fields of a Java side by their kinds: 0 an int, 1 a long, 2 a reference, 3 a boolean -/
def zfs (G : zG) (h : zH) (a : Nat) (ks : List Nat) : List Value := ks.mapIdx (fun k t => if t = 1 then .long (zml h a k) else if t = 2 then zrf G (zmr h a k) else .int (zmi h a k))
def zce (G : zG) (h : zH) (a : Nat) : va_E := if zsh h a < 20 then .inr (zsh h a - 1, zfs G h a (zft (zsh h a - 1))) else .inl (G.2.2.1 (zsh h a), (zln h a, if zsh h a = 22 then .inr (.inl (zml h a)) else if zsh h a < 25 then .inl (zmi h a) else .inr (.inr (.inr (.inr (fun k => zro G (zmr h a k)))))))
def zHR (G : zG) (h : zH) (H : Heap) : Prop := H.size = zbase G + 1 + znx h ∧ (∀ a, 1 ≤ a → a ≤ znx h → va_at G.2.1 vwCl (zbase G + a, zce G h a) H) ∧ ∀ a, zsh h a ≠ 0 → 1 ≤ a ∧ a ≤ znx h
/-- one cell changes -/
theorem zHR_set {G : zG} {h h' : zH} {H H1 : Heap} {a : Nat} (hH : zHR G h H) (hn : znx h' = znx h) (hs : ∀ b, zsh h' b = zsh h b) (hc : ∀ b, b ≠ a → zce G h' b = zce G h b) (hz : H1.size = H.size) (oq : ∀ q : Nat, q ≠ zbase G + a → H1[q]? = H[q]?) (he : va_at G.2.1 vwCl (zbase G + a, zce G h' a) H1) : zHR G h' H1 := by
  refine ⟨by rw [hz, hn]; exact hH.1, fun b b1 b2 => ?_, fun b hb => ?_⟩
  · by_cases hba : b = a
    · rw [hba]; exact he
    · rw [hc b hba]
      rw [hn] at b2
      exact (hH.2.1 b b1 b2).kept (oq _ (by show zbase G + b ≠ zbase G + a; omega))
  · rw [hn]
    exact hH.2.2 b (by rw [← hs]; exact hb)
/-- a cell is made -/
theorem zHR_new {G : zG} {h h' : zH} {H H1 : Heap} (hH : zHR G h H) (hn : znx h' = znx h + 1) (hs : ∀ b, b ≠ znx h + 1 → zsh h' b = zsh h b) (hc : ∀ b, b ≠ znx h + 1 → zce G h' b = zce G h b) (hz : H1.size = H.size + 1) (oq : ∀ q : Nat, q < H.size → H1[q]? = H[q]?) (he : va_at G.2.1 vwCl (zbase G + (znx h + 1), zce G h' (znx h + 1)) H1) : zHR G h' H1 := by
  refine ⟨by rw [hz, hn, hH.1]; omega, fun b b1 b2 => ?_, fun b hb => ?_⟩
  · by_cases hba : b = znx h + 1
    · rw [hba]; exact he
    · rw [hc b hba]
      have hb2 : b ≤ znx h := by omega
      exact (hH.2.1 b b1 hb2).kept (oq _ (by show zbase G + b < H.size; rw [hH.1]; omega))
  · rw [hn]
    by_cases hba : b = znx h + 1
    · omega
    · have := hH.2.2 b (by rw [← hs b hba]; exact hb)
      omega
theorem zce_si {G : zG} {h : zH} {a k b : Nat} {v : Int32} (hb : b ≠ a) : zce G (zsi h a k v) b = zce G h b := by
  have e : zmi (zsi h a k v) b = zmi h b := zu_ne hb
  unfold zce zfs
  rw [e]
  rfl
theorem zce_sg {G : zG} {h : zH} {a k b : Nat} {v : Int64} (hb : b ≠ a) : zce G (zsg h a k v) b = zce G h b := by
  have e : zml (zsg h a k v) b = zml h b := zu_ne hb
  unfold zce zfs
  rw [e]
  rfl
theorem zce_sr {G : zG} {h : zH} {a k b : Nat} {v : Nat} (hb : b ≠ a) : zce G (zsr h a k v) b = zce G h b := by
  have e : ∀ j, zmr (zsr h a k v) b j = zmr h b j := fun j => congrFun (zu_ne hb) j
  unfold zce zfs
  simp only [e]
  rfl
theorem zce_ri {G : zG} {h : zH} {a b : Nat} {f : Nat → Int32} (hb : b ≠ a) : zce G (zri h a f) b = zce G h b := by
  have e : zmi (zri h a f) b = zmi h b := zrw_ne hb
  unfold zce zfs
  rw [e]
  rfl
theorem zce_nw {G : zG} {h : zH} {c n sl b : Nat} (hb : b ≠ znx h + 1) : zce G (znw h c n sl) b = zce G h b := by
  have e1 : zmi (znw h c n sl) b = zmi h b := zrw_ne hb
  have e2 : zml (znw h c n sl) b = zml h b := zrw_ne hb
  have e3 : ∀ j, zmr (znw h c n sl) b j = zmr h b j := fun j => congrFun (zrw_ne hb) j
  have e4 : zsh (znw h c n sl) b = zsh h b := zup_ne hb
  have e5 : zln (znw h c n sl) b = zln h b := zup_ne hb
  unfold zce zfs
  simp only [e1, e2, e3, e4, e5]
theorem zce_obj {G : zG} {h : zH} {a ci : Nat} (hs : zsh h a = ci + 1) (hi : ci < 19) : zce G h a = .inr (ci, zfs G h a (zft ci)) := by
  unfold zce
  rw [hs, if_pos (by omega), Nat.add_sub_cancel]
theorem zce_int {G : zG} {h : zH} {a t : Nat} (hs : zsh h a = t) (h1 : 20 ≤ t) (h2 : t < 25) (h3 : t ≠ 22) : zce G h a = .inl (G.2.2.1 t, (zln h a, .inl (zmi h a))) := by
  unfold zce
  rw [hs, if_neg (by omega), if_neg h3, if_pos h2]
theorem zce_lng {G : zG} {h : zH} {a : Nat} (hs : zsh h a = 22) : zce G h a = .inl (G.2.2.1 22, (zln h a, .inr (.inl (zml h a)))) := by
  unfold zce
  rw [hs, if_neg (by omega), if_pos rfl]
theorem zce_ref {G : zG} {h : zH} {a t : Nat} (hs : zsh h a = t) (h1 : 25 ≤ t) : zce G h a = .inl (G.2.2.1 t, (zln h a, .inr (.inr (.inr (.inr (fun k => zro G (zmr h a k))))))) := by
  unfold zce
  rw [hs, if_neg (by omega), if_neg (by omega), if_neg (by omega)]
theorem zfs_at {G : zG} {h : zH} {a k t : Nat} {ks : List Nat} (hk : ks[k]? = some t) : (zfs G h a ks)[k]? = some (if t = 1 then .long (zml h a k) else if t = 2 then zrf G (zmr h a k) else .int (zmi h a k)) := by
  unfold zfs
  rw [List.getElem?_mapIdx, hk]
  rfl
theorem zfs_len {G : zG} {h : zH} {a : Nat} {ks : List Nat} : (zfs G h a ks).length = ks.length := List.length_mapIdx
theorem zfs_si {G : zG} {h : zH} {a k t : Nat} {ks : List Nat} {v : Int32} (hk : ks[k]? = some t) (h1 : t ≠ 1) (h2 : t ≠ 2) : zfs G (zsi h a k v) a ks = (zfs G h a ks).set k (.int v) := by
  apply List.ext_getElem?
  intro j
  have hl : k < (zfs G h a ks).length := by rw [zfs_len]; exact (List.getElem?_eq_some_iff.mp hk).1
  rw [List.getElem?_set]
  by_cases hj : k = j
  · subst hj
    rw [if_pos rfl, if_pos hl, zfs_at hk, if_neg h1, if_neg h2]
    have : zmi (zsi h a k v) a k = v := by show zu h.2.1 a k v a k = v; rw [zu_eq]; exact if_pos rfl
    rw [this]
  · rw [if_neg hj]
    have e : zmi (zsi h a k v) a j = zmi h a j := by show zu h.2.1 a k v a j = h.2.1 a j; rw [zu_eq]; exact if_neg (fun q => hj q.symm)
    unfold zfs
    rw [List.getElem?_mapIdx, List.getElem?_mapIdx, e]
    rfl
theorem zfs_sg {G : zG} {h : zH} {a k : Nat} {ks : List Nat} {v : Int64} (hk : ks[k]? = some 1) : zfs G (zsg h a k v) a ks = (zfs G h a ks).set k (.long v) := by
  apply List.ext_getElem?
  intro j
  have hl : k < (zfs G h a ks).length := by rw [zfs_len]; exact (List.getElem?_eq_some_iff.mp hk).1
  rw [List.getElem?_set]
  by_cases hj : k = j
  · subst hj
    rw [if_pos rfl, if_pos hl, zfs_at hk, if_pos rfl]
    have : zml (zsg h a k v) a k = v := by show zu h.2.2 a k v a k = v; rw [zu_eq]; exact if_pos rfl
    rw [this]
  · rw [if_neg hj]
    have e : zml (zsg h a k v) a j = zml h a j := by show zu h.2.2 a k v a j = h.2.2 a j; rw [zu_eq]; exact if_neg (fun q => hj q.symm)
    unfold zfs
    rw [List.getElem?_mapIdx, List.getElem?_mapIdx, e]
    rfl
theorem zfs_sr {G : zG} {h : zH} {a k : Nat} {ks : List Nat} {v : Nat} (hk : ks[k]? = some 2) : zfs G (zsr h a k v) a ks = (zfs G h a ks).set k (zrf G v) := by
  apply List.ext_getElem?
  intro j
  have hl : k < (zfs G h a ks).length := by rw [zfs_len]; exact (List.getElem?_eq_some_iff.mp hk).1
  rw [List.getElem?_set]
  by_cases hj : k = j
  · subst hj
    rw [if_pos rfl, if_pos hl, zfs_at hk, if_neg (by omega), if_pos rfl]
    have : zmr (zsr h a k v) a k = v := by show zu h.1.2.2.1 a k v a k = v; rw [zu_eq]; exact if_pos rfl
    rw [this]
  · rw [if_neg hj]
    have e : zmr (zsr h a k v) a j = zmr h a j := by show zu h.1.2.2.1 a k v a j = h.1.2.2.1 a j; rw [zu_eq]; exact if_neg (fun q => hj q.symm)
    unfold zfs
    rw [List.getElem?_mapIdx, List.getElem?_mapIdx, e]
    rfl
