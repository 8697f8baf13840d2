/-! links are changed: what holds then -/
def ll : Nat → List Nat → Nat
  | b, [] => b
  | _, d :: l => ll (72 + d) l
theorem ll_r : ∀ {l : List Nat} {b : Nat}, (∀ d, d ∈ l → d < 24) → (b = 96 ∨ 72 ≤ b ∧ b < 96) → (ll b l = 96 ∨ 72 ≤ ll b l ∧ ll b l < 96)
  | [], _, _, h => h
  | d :: l, b, h, hb => ll_r (l := l) (fun e he => h e (List.mem_cons_of_mem _ he)) (by have := h d (by simp); omega)
theorem ll_m : ∀ {l : List Nat} {b : Nat}, ll b l = b ∨ ∃ d, d ∈ l ∧ ll b l = 72 + d
  | [], _ => Or.inl rfl
  | d :: l, b => by
    rcases ll_m (l := l) (b := 72 + d) with h | ⟨e, h1, h2⟩
    · exact Or.inr ⟨d, by simp, h⟩
    · exact Or.inr ⟨e, List.mem_cons_of_mem _ h1, h2⟩
theorem ll_n : ∀ {l : List Nat} {b : Nat}, l ≠ [] → ∃ d, d ∈ l ∧ ll b l = 72 + d
  | [], _, h => absurd rfl h
  | d :: l, b, _ => by
    rcases ll_m (l := l) (b := 72 + d) with h | ⟨e, h1, h2⟩
    · exact ⟨d, by simp, h⟩
    · exact ⟨e, List.mem_cons_of_mem _ h1, h2⟩
theorem lka_ll {v : Nat → Int32} {key : Int32} : ∀ {l : List Nat} {b : Nat}, Lk v (v b) l → ∃ l1 l2, l = l1 ++ l2 ∧ (∀ c, c ∈ l1 → v (24 + c) < key) ∧ (∀ c l3, l2 = c :: l3 → ¬ v (24 + c) < key) ∧ Lk v (v (ll b l1)) l2 ∧ lka v key b l = ll b l1
  | [], b, h => ⟨[], [], rfl, by simp, by simp, h, rfl⟩
  | c :: l, b, h => by
    by_cases q : v (24 + c) < key
    · obtain ⟨l1, l2, e1, e2, e3, e4, e5⟩ := lka_ll (key := key) (b := 72 + c) h.2.2
      refine ⟨c :: l1, l2, by rw [e1]; rfl, ?_, e3, e4, by unfold lka; rw [if_pos q]; exact e5⟩
      intro d hd
      rcases List.mem_cons.mp hd with r | r
      · rw [r]; exact q
      · exact e2 d r
    · exact ⟨[], c :: l, rfl, by simp, fun d l3 e => by injection e with e1 e2; rw [← e1]; exact q, h, by unfold lka; rw [if_neg q]; rfl⟩
theorem Lk_spl {v v' : Nat → Int32} {l3 : List Nat} : ∀ {l1 l2 : List Nat} {b : Nat}, Lk v (v b) (l1 ++ l2) → l1.Nodup → (∀ d, d ∈ l1 → b ≠ 72 + d) → (∀ p, p ≠ ll b l1 → (p = b ∨ ∃ d, d ∈ l1 ∧ p = 72 + d) → v' p = v p) → Lk v' (v' (ll b l1)) l3 → Lk v' (v' b) (l1 ++ l3)
  | [], _, _, _, _, _, _, h3 => h3
  | d :: l1, l2, b, h, hn, hb, he, h3 => by
    have hn' := List.nodup_cons.mp hn
    have e1 : v' b = v b := he b (by
      obtain ⟨d', q1, q2⟩ := ll_n (l := d :: l1) (b := b) (by simp)
      rw [q2]
      exact hb d' q1) (Or.inl rfl)
    refine ⟨by rw [e1]; exact h.1, h.2.1, ?_⟩
    refine Lk_spl (l1 := l1) (l2 := l2) (b := 72 + d) h.2.2 hn'.2 (fun e he' q => hn'.1 (by
      have : d = e := by omega
      rw [this]
      exact he')) (fun p hp hq => he p hp ?_) h3
    rcases hq with q | ⟨e, q1, q2⟩
    · exact Or.inr ⟨d, by simp, q⟩
    · exact Or.inr ⟨e, List.mem_cons_of_mem _ q1, q2⟩
def CIx (v : Nat → Int32) (l lw lc ex : List Nat) : Prop :=
  (Lk v (v 96) l ∧ l.Pairwise (fun a b => v (24 + a) < v (24 + b))) ∧
  ((∀ c, c < 24 → v c = nI 0 ∨ v c = nI 1 ∨ v c = nI 2) ∧ (∀ c, c < 24 → (v c = nI 1 ↔ c ∈ l ∨ c ∈ ex)) ∧ (∀ c, c < 24 → (v c = nI 2 ↔ c ∈ lw ++ lc)) ∧ ∀ c, c < 24 → ∃ k, k < 100 ∧ v (24 + c) = nI k) ∧
  (Ls v 140 lw ∧ v 139 = nI lw.length ∧ Ls v 165 lc ∧ v 164 = nI lc.length ∧ (lw ++ lc).Nodup ∧ ∀ c, c ∈ lw ++ lc → c < 24)
theorem n12 : nI 1 ≠ nI 2 := by decide
theorem n01 : nI 0 ≠ nI 1 := by decide
theorem n02 : nI 0 ≠ nI 2 := by decide
theorem CIx_r {v : Nat → Int32} {l lw lc : List Nat} (h : CIx v l lw lc []) : CIr v l lw lc := by
  obtain ⟨h1, ⟨a1, a2, a3, a4⟩, h3⟩ := h
  exact ⟨h1, ⟨a1, fun c hc => by rw [a2 c hc]; simp, a3, a4⟩, h3⟩
theorem ci_room {v : Nat → Int32} {l lw lc : List Nat} {d : Nat} (h : CIx v l lw lc [d]) (hd : d < 24) : lw.length < 24 ∧ d ∉ lw ++ lc := by
  obtain ⟨h1, ⟨a1, a2, a3, a4⟩, b1, b2, b3, b4, b5, b6⟩ := h
  have e : d ∉ lw ++ lc := fun q => by
    have h2 := (a3 d hd).mpr q
    have h3 := (a2 d hd).mpr (Or.inr (by simp))
    exact n12 (h3.symm.trans h2)
  refine ⟨?_, e⟩
  have := nd_len 24 (l := d :: (lw ++ lc)) (List.nodup_cons.mpr ⟨e, b5⟩) (fun c hc => by
    rcases List.mem_cons.mp hc with q | q
    · rw [q]; exact hd
    · exact b6 c q)
  simp at this
  omega
theorem ci_age {v : Nat → Int32} {l lw lc : List Nat} {d : Nat} (h : CIx v l lw lc [d]) (hd : d < 24) (hl : d ∉ l) : CIr (v_age v d lw.length) l (lw ++ [d]) lc := by
  obtain ⟨r1, r2⟩ := ci_room h hd
  obtain ⟨⟨h1, h2⟩, ⟨a1, a2, a3, a4⟩, b1, b2, b3, b4, b5, b6⟩ := h
  have lo : ∀ c, c < 139 → c ≠ d → v_age v d lw.length c = v c := fun c hc hcd => by
    unfold v_age
    rw [upd_ne (by omega), upd_ne (by omega), upd_ne hcd]
  have atd : v_age v d lw.length d = nI 2 := by
    unfold v_age
    rw [upd_ne (by omega), upd_ne (by omega), upd_eq]
  have hin : ∀ c, c ∈ lw ++ [d] ++ lc ↔ c = d ∨ c ∈ lw ++ lc := fun c => by
    simp only [List.mem_append, List.mem_singleton]
    constructor
    · rintro ((q | q) | q)
      · exact Or.inr (Or.inl q)
      · exact Or.inl q
      · exact Or.inr (Or.inr q)
    · rintro (q | q | q)
      · exact Or.inl (Or.inr q)
      · exact Or.inl (Or.inl q)
      · exact Or.inr q
  have lt := Lk_lt h1
  refine ⟨⟨?_, ?_⟩, ⟨fun c hc => ?_, fun c hc => ?_, fun c hc => ?_, fun c hc => ?_⟩, ?_, ?_, ?_, ?_, ?_, ?_⟩
  · rw [lo 96 (by decide) (by omega)]
    exact Lk_congv h1 (fun c hc => lo _ (by have := lt c hc; omega) (by omega))
  · refine h2.imp_of_mem (fun {a b} ha hb q => ?_)
    have := lt a ha
    have := lt b hb
    rw [lo _ (by omega) (by omega), lo _ (by omega) (by omega)]
    exact q
  · by_cases e : c = d
    · rw [e]; exact Or.inr (Or.inr atd)
    · rw [lo c (by omega) e]; exact a1 c hc
  · by_cases e : c = d
    · rw [e, atd]
      exact ⟨fun q => absurd q.symm n12, fun q => absurd q hl⟩
    · rw [lo c (by omega) e, a2 c hc]
      simp [e]
  · rw [hin]
    by_cases e : c = d
    · rw [e, atd]
      simp
    · rw [lo c (by omega) e, a3 c hc]
      simp [e]
  · rw [lo _ (by omega) (by omega)]
    exact a4 c hc
  · refine Ls_snoc (Ls_cong b1 (fun j h5 h6 => ?_)) ?_
    · unfold v_age
      rw [upd_ne (by omega), upd_ne (by omega), upd_ne (by omega)]
    · unfold v_age
      rw [upd_ne (by omega), upd_eq]
  · unfold v_age
    rw [upd_eq]
    simp
  · have hlc : lc.length ≤ 24 := nd_len 24 (List.nodup_append.mp b5).2.1 (fun c hc => b6 c (List.mem_append_right _ hc))
    refine Ls_cong b3 (fun j h5 h6 => ?_)
    unfold v_age
    rw [upd_ne (by omega), upd_ne (by omega), upd_ne (by omega)]
  · unfold v_age
    rw [upd_ne (by omega), upd_ne (by omega), upd_ne (by omega)]
    exact b4
  · have hp : (lw ++ [d] ++ lc).Perm (d :: (lw ++ lc)) := by
      rw [List.append_assoc]
      exact List.perm_middle
    exact hp.nodup_iff.mpr (List.nodup_cons.mpr ⟨r2, b5⟩)
  · intro c hc
    rcases (hin c).mp hc with q | q
    · rw [q]; exact hd
    · exact b6 c q
theorem ll_b {v : Nat → Int32} {x : Int32} {l l1 l2 : List Nat} (h : Lk v x l) (e : l = l1 ++ l2) : (ll 96 l1 = 96 ∨ 72 ≤ ll 96 l1 ∧ ll 96 l1 < 96) ∧ ∀ c, (c ∉ l1 → c < 24 → ll 96 l1 ≠ 72 + c) := by
  have lt := Lk_lt h
  refine ⟨ll_r (fun d hd => lt d (by rw [e]; exact List.mem_append_left _ hd)) (Or.inl rfl), fun c hc hc2 q => ?_⟩
  rcases ll_m (l := l1) (b := 96) with z | ⟨d, z1, z2⟩
  · omega
  · have : d = c := by omega
    exact hc (by rw [← this]; exact z1)
theorem ci_put {v : Nat → Int32} {l lw lc l1 ex rest : List Nat} {c k : Nat} {x val : Int32} (h : CIr v l lw lc) (e : l = l1 ++ (ex ++ rest)) (hx : Lk v x rest) (hc : c < 24) (hv : v c = nI 0) (hk : k < 100) (hl : ∀ a, a ∈ l1 → v (24 + a) < nI k) (hr : ∀ a, a ∈ rest → nI k < v (24 + a)) : CIx (v_put v c (ll 96 l1) (nI k) val x) (l1 ++ c :: rest) lw lc ex ∧ c ∉ l := by
  obtain ⟨⟨h1, h2⟩, ⟨a1, a2, a3, a4⟩, b1, b2, b3, b4, b5, b6⟩ := h
  have cl : c ∉ l := fun q => n01 (hv.symm.trans ((a2 c hc).mpr q))
  have lt := Lk_lt h1
  have nd := Lk_nd h1
  rw [e] at nd h2
  have nd' := List.nodup_append.mp nd
  have ndr := List.nodup_append.mp nd'.2.1
  obtain ⟨hb, hbn⟩ := ll_b h1 e
  have c1 : c ∉ l1 := fun q => cl (by rw [e]; exact List.mem_append_left _ q)
  have cr : c ∉ rest := fun q => cl (by rw [e]; exact List.mem_append_right _ (List.mem_append_right _ q))
  have bc := hbn c c1 hc
  have lt1 : ∀ d, d ∈ l1 → d < 24 := fun d hd => lt d (by rw [e]; exact List.mem_append_left _ hd)
  have ltr : ∀ d, d ∈ rest → d < 24 := fun d hd => lt d (by rw [e]; exact List.mem_append_right _ (List.mem_append_right _ hd))
  have vk : ∀ d, d < 24 → d ≠ c → v_put v c (ll 96 l1) (nI k) val x (24 + d) = v (24 + d) := fun d hd hn => by
    unfold v_put
    rw [upd_ne (by omega), upd_ne (by omega), upd_ne (by omega), upd_ne (by omega), upd_ne (by omega)]
  have vkc : v_put v c (ll 96 l1) (nI k) val x (24 + c) = nI k := by
    unfold v_put
    rw [upd_ne (by omega), upd_ne (by omega), upd_ne (by omega), upd_eq]
  have vs : ∀ d, d < 24 → d ≠ c → v_put v c (ll 96 l1) (nI k) val x d = v d := fun d hd hn => by
    unfold v_put
    rw [upd_ne (by omega), upd_ne (by omega), upd_ne (by omega), upd_ne (by omega), upd_ne (by omega)]
  have vsc : v_put v c (ll 96 l1) (nI k) val x c = nI 1 := by
    unfold v_put
    rw [upd_ne (by omega), upd_ne (by omega), upd_ne (by omega), upd_ne (by omega), upd_eq]
  have vn : ∀ p, 72 ≤ p → p ≠ ll 96 l1 → p ≠ 72 + c → v_put v c (ll 96 l1) (nI k) val x p = v p := fun p h72 hp hq => by
    unfold v_put
    rw [upd_ne hp, upd_ne hq, upd_ne (by omega), upd_ne (by omega), upd_ne (by omega)]
  have vb : v_put v c (ll 96 l1) (nI k) val x (ll 96 l1) = nI c := by
    unfold v_put
    rw [upd_eq]
  have vnc : v_put v c (ll 96 l1) (nI k) val x (72 + c) = x := by
    unfold v_put
    rw [upd_ne (fun q => bc q.symm), upd_eq]
  have hi : ∀ p, 97 ≤ p → v_put v c (ll 96 l1) (nI k) val x p = v p := fun p hp => v_put_hi hc hb hp
  refine ⟨⟨⟨?_, ?_⟩, ⟨fun d hd => ?_, fun d hd => ?_, fun d hd => ?_, fun d hd => ?_⟩, ?_, ?_, ?_, ?_, b5, b6⟩, cl⟩
  · rw [e] at h1
    refine Lk_spl h1 nd'.1 (fun d hd => by have := lt1 d hd; omega) (fun p hp hq => ?_) ?_
    · rcases hq with q | ⟨d, q1, q2⟩
      · exact vn p (by omega) hp (by omega)
      · exact vn p (by omega) hp (fun z => c1 (by
          have : d = c := by omega
          rw [← this]; exact q1))
    · rw [vb]
      refine ⟨rfl, hc, ?_⟩
      rw [vnc]
      refine Lk_congv hx (fun d hd => vn _ (by omega) (fun q => ?_) (fun q => cr (by
          have : d = c := by omega
          rw [← this]; exact hd)))
      exact hbn d (fun z => nd'.2.2 d z d (List.mem_append_right _ hd) rfl) (ltr d hd) q.symm
  · rw [List.pairwise_append] at h2 ⊢
    obtain ⟨p1, p2, p3⟩ := h2
    rw [List.pairwise_append] at p2
    refine ⟨p1.imp_of_mem (fun {a b} ha hb' q => ?_), List.pairwise_cons.mpr ⟨fun a ha => ?_, p2.2.1.imp_of_mem (fun {a b} ha hb' q => ?_)⟩, fun a ha b' hb' => ?_⟩
    · rw [vk a (lt1 a ha) (fun z => c1 (by rw [← z]; exact ha)), vk b (lt1 b hb') (fun z => c1 (by rw [← z]; exact hb'))]
      exact q
    · rw [vkc, vk a (ltr a ha) (fun z => cr (by rw [← z]; exact ha))]
      exact hr a ha
    · rw [vk a (ltr a ha) (fun z => cr (by rw [← z]; exact ha)), vk b (ltr b hb') (fun z => cr (by rw [← z]; exact hb'))]
      exact q
    · rw [vk a (lt1 a ha) (fun z => c1 (by rw [← z]; exact ha))]
      rcases List.mem_cons.mp hb' with z | z
      · rw [z, vkc]; exact hl a ha
      · rw [vk b' (ltr b' z) (fun y => cr (by rw [← y]; exact z))]
        exact p3 a ha b' (List.mem_append_right _ z)
  · by_cases q : d = c
    · rw [q]; exact Or.inr (Or.inl vsc)
    · rw [vs d hd q]; exact a1 d hd
  · by_cases q : d = c
    · rw [q, vsc]; simp
    · rw [vs d hd q, a2 d hd, e]
      simp only [List.mem_append, List.mem_cons]
      constructor
      · rintro (z | z | z)
        · exact Or.inl (Or.inl z)
        · exact Or.inr z
        · exact Or.inl (Or.inr (Or.inr z))
      · rintro ((z | z | z) | z)
        · exact Or.inl z
        · exact absurd z q
        · exact Or.inr (Or.inr z)
        · exact Or.inr (Or.inl z)
  · by_cases q : d = c
    · rw [q, vsc]
      exact ⟨fun z => absurd z n12, fun z => absurd (hv.symm.trans ((a3 c hc).mpr z)) n02⟩
    · rw [vs d hd q]; exact a3 d hd
  · by_cases q : d = c
    · rw [q, vkc]; exact ⟨k, hk, rfl⟩
    · rw [vk d hd q]; exact a4 d hd
  · exact Ls_cong b1 (fun j h5 _ => hi j (by omega))
  · rw [hi _ (by omega)]; exact b2
  · exact Ls_cong b3 (fun j h5 _ => hi j (by omega))
  · rw [hi _ (by omega)]; exact b4
theorem ci_drop {v : Nat → Int32} {l lw lc l1 ex rest : List Nat} {x : Int32} (h : CIr v l lw lc) (e : l = l1 ++ (ex ++ rest)) (hx : Lk v x rest) : CIx (upd v (ll 96 l1) x) (l1 ++ rest) lw lc ex := by
  obtain ⟨⟨h1, h2⟩, ⟨a1, a2, a3, a4⟩, b1, b2, b3, b4, b5, b6⟩ := h
  have lt := Lk_lt h1
  have nd := Lk_nd h1
  rw [e] at nd h2
  have nd' := List.nodup_append.mp nd
  have ndr := List.nodup_append.mp nd'.2.1
  obtain ⟨hb, hbn⟩ := ll_b h1 e
  have lt1 : ∀ d, d ∈ l1 → d < 24 := fun d hd => lt d (by rw [e]; exact List.mem_append_left _ hd)
  have ltr : ∀ d, d ∈ rest → d < 24 := fun d hd => lt d (by rw [e]; exact List.mem_append_right _ (List.mem_append_right _ hd))
  have lo : ∀ p, p < 72 → upd v (ll 96 l1) x p = v p := fun p hp => upd_ne (by omega)
  have hi : ∀ p, 97 ≤ p → upd v (ll 96 l1) x p = v p := fun p hp => upd_ne (by omega)
  refine ⟨⟨?_, ?_⟩, ⟨fun d hd => ?_, fun d hd => ?_, fun d hd => ?_, fun d hd => ?_⟩, ?_, ?_, ?_, ?_, b5, b6⟩
  · rw [e] at h1
    refine Lk_spl h1 nd'.1 (fun d hd => by have := lt1 d hd; omega) (fun p hp _ => upd_ne hp) ?_
    rw [upd_eq]
    exact Lk_congv hx (fun d hd => upd_ne (fun q => hbn d (fun z => nd'.2.2 d z d (List.mem_append_right _ hd) rfl) (ltr d hd) q.symm))
  · rw [List.pairwise_append] at h2 ⊢
    obtain ⟨p1, p2, p3⟩ := h2
    rw [List.pairwise_append] at p2
    refine ⟨p1.imp_of_mem (fun {a b} ha hb' q => ?_), p2.2.1.imp_of_mem (fun {a b} ha hb' q => ?_), fun a ha b' hb' => ?_⟩
    · rw [lo _ (by have := lt1 a ha; omega), lo _ (by have := lt1 b hb'; omega)]; exact q
    · rw [lo _ (by have := ltr a ha; omega), lo _ (by have := ltr b hb'; omega)]; exact q
    · rw [lo _ (by have := lt1 a ha; omega), lo _ (by have := ltr b' hb'; omega)]
      exact p3 a ha b' (List.mem_append_right _ hb')
  · rw [lo d (by omega)]; exact a1 d hd
  · rw [lo d (by omega), a2 d hd, e]
    simp only [List.mem_append]
    constructor
    · rintro (z | z | z)
      · exact Or.inl (Or.inl z)
      · exact Or.inr z
      · exact Or.inl (Or.inr z)
    · rintro ((z | z) | z)
      · exact Or.inl z
      · exact Or.inr (Or.inr z)
      · exact Or.inr (Or.inl z)
  · rw [lo d (by omega)]; exact a3 d hd
  · rw [lo _ (by omega)]; exact a4 d hd
  · exact Ls_cong b1 (fun j h5 _ => hi j (by omega))
  · rw [hi _ (by omega)]; exact b2
  · exact Ls_cong b3 (fun j h5 _ => hi j (by omega))
  · rw [hi _ (by omega)]; exact b4
/-- readers: their rows stay finite when a link is led elsewhere -/
theorem Lk_only {v v' : Nat → Int32} {x : Int32} {l : List Nat} (h : Lk v x l) (e : ∀ j, j < 24 → v' (72 + j) = v (72 + j)) : Lk v' x l := Lk_congv h (fun c hc => e c (Lk_lt h c hc))
theorem pi_fin {v v' : Nat → Int32} (h : PIr v) (e : ∀ k, 97 ≤ k → k < 129 → v' k = v k) (hf : ∀ x l, Lk v x l → ∃ l', Lk v' x l') : PIr v' := by
  intro p hp
  obtain ⟨⟨a1, a2, a3⟩, b1, b2, b3⟩ := h p hp
  rw [e (97 + p) (by omega) (by omega), e (113 + p) (by omega) (by omega), e (121 + p) (by omega) (by omega), e (105 + p) (by omega) (by omega)]
  exact ⟨⟨a1, a2, a3⟩, b1, b2, fun q => by obtain ⟨l, hl⟩ := b3 q; exact hf _ l hl⟩
theorem fin_b {v : Nat → Int32} {b : Nat} {y : Int32} {ly : List Nat} (hb : b = 96 ∨ 72 ≤ b ∧ b < 96) (hy : Lk v y ly) (hn : ∀ c, c ∈ ly → b ≠ 72 + c) {x : Int32} {l : List Nat} (h : Lk v x l) : ∃ l', Lk (upd v b y) x l' := by
  by_cases q : b = 96
  · exact ⟨l, Lk_only h (fun j hj => upd_ne (by omega))⟩
  · have e : b = 72 + (b - 72) := by omega
    rw [e]
    exact Lk_upd (by omega) hy (fun z => hn _ z e) h
