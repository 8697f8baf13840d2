/-! put and drop on both sides -/
def HCo (g : zS) (n : Nat) (m0 : Nat → Nat → Int32) (u0 : Nat → Int32) (w : Nat) (KO : (Nat → Int32) → Nat → Nat → Int32) (BO : (Nat → Int32) → Nat → Bool) : Prop := ∃ A, ∀ (mi : Nat → Nat → Int32) (ml : Nat → Nat → Int64) (v : Nat → Int32), FC w m0 mi → (∀ k, 191 ≤ k → v k = u0 k) → WR mi w v → f_X6_lawAt n 25 (mi 25 3) (g, mi, ml) = some (A, (g, mi, ml)) ∧ (∀ nd ch, 0 < nd → nd < 8 → ch < 2 → ∃ f ml', f_X6_costOf n 25 A (nI nd) (nI ch) w (g, mi, ml) = some (KO v nd ch, (g, zrw mi 23 f, ml'))) ∧ ∀ k, k < 100 → ∃ f ml', f_X6_bars n 25 (nI k) (v 190) (g, mi, ml) = some (if BO v k = true then nI 1 else nI 0, (g, zrw mi 23 f, ml'))
def HRo (g : zS) (n : Nat) (u0 : Nat → Int32) (KO : (Nat → Int32) → Nat → Nat → Int32) (BO : (Nat → Int32) → Nat → Bool) : Prop := ∀ (M : Nat → Nat → Int32) (ml : Nat → Nat → Int64) (v : Nat → Int32), (∀ k, 191 ≤ k → v k = u0 k) → (∀ nd ch, 0 < nd → nd < 8 → ch < 2 → ∃ M', f_X12_costsAt n 422 (nI nd) (nI ch) (g, zrw M 424 v, ml) = some (KO v nd ch, (g, zrw M' 424 v, ml)) ∧ FM M M') ∧ ∀ k, k < 100 → ∃ M', f_X12_isBarred n 422 (nI k) (g, zrw M 424 v, ml) = some (if BO v k = true then nI 1 else nI 0, (g, zrw M' 424 v, ml)) ∧ FM M M'
/-- how many graces have ended -/
def Ed (v : Nat → Int32) (k : Nat) : Prop := ((v 129 = nI 0 ∧ v 130 = nI k) ∨ (v 129 = nI 1 ∧ v 130 = nI (k + 1))) ∧ ∃ t, t ≤ 999 ∧ v 190 = nI t
def Gw (d : Nat) (v v' : Nat → Int32) : Prop := ∀ k, Ed v k → ∃ j, j ≤ d ∧ Ed v' (k + j)
def Ra (v v' : Nat → Int32) (r : Int32) : Prop := Gw 9 v v' ∧ (r = m1 ∨ r = m3 ∨ r = m5 ∨ (∃ j, j ≤ 300 ∧ r = nI j) ∨ r = v' 130)
theorem Gw_0 {d : Nat} {v v' : Nat → Int32} (h : ∀ k, (k = 129 ∨ k = 130 ∨ k = 190) → v' k = v k) : Gw d v v' := fun k hk => ⟨0, Nat.zero_le _, by unfold Ed at hk ⊢; rw [h 129 (Or.inl rfl), h 130 (Or.inr (Or.inl rfl)), h 190 (Or.inr (Or.inr rfl))]; exact hk⟩
theorem Gw_t {d d' : Nat} {v v' v'' : Nat → Int32} (h : Gw d v v') (h' : Gw d' v' v'') : Gw (d + d') v v'' := fun k hk => by
  obtain ⟨j, h1, h2⟩ := h k hk
  obtain ⟨j', h3, h4⟩ := h' _ h2
  exact ⟨j + j', by omega, by rw [← Nat.add_assoc]; exact h4⟩
theorem Gw_w {d d' : Nat} {v v' : Nat → Int32} (h : Gw d v v') (hd : d ≤ d') : Gw d' v v' := fun k hk => by
  obtain ⟨j, h1, h2⟩ := h k hk
  exact ⟨j, by omega, h2⟩
theorem Gw_l {d : Nat} {v v1 v' : Nat → Int32} (he : ∀ k, (k = 129 ∨ k = 130 ∨ k = 190) → v1 k = v k) (h : Gw d v1 v') : Gw d v v' := by
  have := Gw_t (Gw_0 (d := 0) he) h
  rw [Nat.zero_add] at this
  exact this
theorem Ra_0 {v v' : Nat → Int32} {r : Int32} (h : ∀ k, (k = 129 ∨ k = 130 ∨ k = 190) → v' k = v k) (hr : r = m1 ∨ r = m3 ∨ r = m5 ∨ ∃ j, j ≤ 300 ∧ r = nI j) : Ra v v' r := ⟨Gw_0 h, by
  rcases hr with q | q | q | q
  · exact Or.inl q
  · exact Or.inr (Or.inl q)
  · exact Or.inr (Or.inr (Or.inl q))
  · exact Or.inr (Or.inr (Or.inr (Or.inl q)))⟩
def SimG (P : (Nat → Int32) → Int32 → Prop) (g : zS) (w : Nat) (m0 : Nat → Nat → Int32) (v : Nat → Int32) (X Y : zH → Option (Int32 × zH)) : Prop := ∃ r v', P v' r ∧ WI v' ∧ (∀ k, 191 ≤ k → v' k = v k) ∧ (∀ M ml, ∃ M', Y (g, zrw M 424 v, ml) = some (r, (g, zrw M' 424 v', ml)) ∧ FM M M') ∧ ∀ mi ml, FC w m0 mi → WR mi w v → ∃ mi' ml', X (g, mi, ml) = some (r, (g, mi', ml')) ∧ WR mi' w v' ∧ FC w mi mi'
def Sim (g : zS) (w : Nat) (m0 : Nat → Nat → Int32) (v : Nat → Int32) (X Y : zH → Option (Int32 × zH)) : Prop := SimG (Ra v) g w m0 v X Y
theorem SimG_c {P : (Nat → Int32) → Int32 → Prop} {g : zS} {w : Nat} {m0 : Nat → Nat → Int32} {v : Nat → Int32} {X Y : zH → Option (Int32 × zH)} (r : Int32) (hP : P v r) (hI : WI v) (hX : ∀ mi ml, WR mi w v → X (g, mi, ml) = some (r, (g, mi, ml))) (hY : ∀ M ml, Y (g, zrw M 424 v, ml) = some (r, (g, zrw M 424 v, ml))) : SimG P g w m0 v X Y := ⟨r, v, hP, hI, fun _ _ => rfl, fun M ml => ⟨M, hY M ml, FM_r M⟩, fun mi ml _ hR => ⟨mi, ml, hX mi ml hR, hR, fun _ _ _ => rfl⟩⟩
theorem Sim_c {g : zS} {w : Nat} {m0 : Nat → Nat → Int32} {v : Nat → Int32} {X Y : zH → Option (Int32 × zH)} (r : Int32) (hI : WI v) (hX : ∀ mi ml, WR mi w v → X (g, mi, ml) = some (r, (g, mi, ml))) (hY : ∀ M ml, Y (g, zrw M 424 v, ml) = some (r, (g, zrw M 424 v, ml))) (hr : r = m1 ∨ r = m3 ∨ r = m5 ∨ ∃ j, j ≤ 300 ∧ r = nI j := by first | exact Or.inl rfl | exact Or.inr (Or.inl rfl) | exact Or.inr (Or.inr (Or.inl rfl)) | exact Or.inr (Or.inr (Or.inr ⟨0, by decide, rfl⟩))) : Sim g w m0 v X Y := SimG_c r (Ra_0 (fun _ _ => rfl) hr) hI hX hY
theorem SimG_s {P P' : (Nat → Int32) → Int32 → Prop} {g : zS} {w : Nat} {m0 : Nat → Nat → Int32} {v v1 : Nat → Int32} {X Y X1 Y1 : zH → Option (Int32 × zH)} (h : SimG P' g w m0 v1 X1 Y1) (hP : ∀ v' r, P' v' r → P v' r) (he : ∀ k, 191 ≤ k → v1 k = v k) (hX : ∀ mi ml, FC w m0 mi → WR mi w v → ∃ mi1 ml1, X (g, mi, ml) = X1 (g, mi1, ml1) ∧ WR mi1 w v1 ∧ FC w mi mi1) (hY : ∀ M ml, ∃ M1, Y (g, zrw M 424 v, ml) = Y1 (g, zrw M1 424 v1, ml) ∧ FM M M1) : SimG P g w m0 v X Y := by
  obtain ⟨r, v', a0, a1, a2, a3, a4⟩ := h
  refine ⟨r, v', hP v' r a0, a1, fun k hk => (a2 k hk).trans (he k hk), fun M ml => ?_, fun mi ml hF hR => ?_⟩
  · obtain ⟨M1, b1, b2⟩ := hY M ml
    obtain ⟨M2, d1, d2⟩ := a3 M1 ml
    exact ⟨M2, by rw [b1, d1], FM_t b2 d2⟩
  · obtain ⟨mi1, ml1, b1, b2, b3⟩ := hX mi ml hF hR
    obtain ⟨mi2, ml2, d1, d2, d3⟩ := a4 mi1 ml1 (FC_t hF b3) b2
    exact ⟨mi2, ml2, by rw [b1, d1], d2, FC_t b3 d3⟩
theorem Lk_r {v : Nat → Int32} {x : Int32} {l : List Nat} (h : Lk v x l) : ∃ j, j ≤ 300 ∧ nI 1 + x = nI j := by
  cases l with
  | nil =>
    have h : x = m1 := h
    exact ⟨0, by decide, by rw [h]; decide⟩
  | cons c l => exact ⟨1 + c, by have := h.2.1; omega, by rw [h.1, nI_add]⟩
theorem FC_23w {w : Nat} (hw : w = 2 ∨ w = 12) {mi : Nat → Nat → Int32} {f : Nat → Int32} {v : Nat → Int32} (h : WR mi w v) : WR (zrw mi 23 f) w v := WR_cong h (fun a h1 h2 => zrw_a (by omega))
theorem lt_neg {x : Int32} {N : Nat} (hN : N < 2147483648) (h : x < 0) : x < nI N := by
  rw [Int32.lt_iff_toInt_lt] at h ⊢
  rw [nI_toInt hN]
  have : (0 : Int32).toInt = 0 := by decide
  omega
theorem ge_lt {x : Int32} {N : Nat} (hN : N + 1 < 2147483648) (h : nI (N + 1) ≤ x) : nI N < x ∧ ¬ x < nI 0 ∧ ¬ x < nI (N + 1) := by
  rw [Int32.le_iff_toInt_le, nI_toInt hN] at h
  rw [Int32.lt_iff_toInt_lt, Int32.lt_iff_toInt_lt, Int32.lt_iff_toInt_lt, nI_toInt hN, nI_toInt (by omega), nI_toInt (by omega)]
  omega
theorem r_lies0 {n N : Nat} {x : Int32} {h : zH} (hx : x < 0) : f_X12_lies n x (nI 0) (nI N) h = some (nI 0, h) := if_pos hx
theorem r_lies1 {n N : Nat} {x : Int32} {h : zH} (hN : N + 1 < 2147483648) (hx : nI (N + 1) ≤ x) : f_X12_lies n x (nI 0) (nI N) h = some (nI 0, h) := by
  unfold f_X12_lies
  rw [if_neg (ge_lt hN hx).2.1, if_pos (ge_lt hN hx).1]
  rfl
theorem r_lies2 {n N j : Nat} {h : zH} (hN : N < 2147483648) (hj : j ≤ N) : f_X12_lies n (nI j) (nI 0) (nI N) h = some (nI 1, h) := by
  unfold f_X12_lies
  simp (disch := omega) only [nLt, if_neg]
  rfl
theorem Srt_hd {v : Nat → Int32} {c : Nat} {l : List Nat} {x : Int32} (h : (c :: l).Pairwise (fun a b => v (24 + a) < v (24 + b))) (hx : x < v (24 + c) ∨ x = v (24 + c)) : ∀ a, a ∈ l → x < v (24 + a) := by
  intro a ha
  have h1 := (List.pairwise_cons.mp h).1 a ha
  rcases hx with q | q
  · rw [Int32.lt_iff_toInt_lt] at q h1 ⊢; omega
  · rw [q]; exact h1
theorem nlt_cases {x y : Int32} (h : ¬ x < y) (hn : x ≠ y) : y < x := by
  rw [Int32.lt_iff_toInt_lt] at h ⊢
  have : x.toInt ≠ y.toInt := fun q => hn (Int32.toInt_inj.mp q)
  omega
theorem zb_id {β : Type} (X : Option (β × zH)) : (zb X fun r h => some (r, h)) = X := by
  cases X <;> rfl
section
variable {g : zS} {n w : Nat} {m0 : Nat → Nat → Int32} {u0 v : Nat → Int32} {KO : (Nat → Int32) → Nat → Nat → Int32} {BO : (Nat → Int32) → Nat → Bool}
/-- the link of a key, and what it leads to: nothing with the key, or a cell with it -/
theorem lnk_cases {l lw lc : List Nat} {k : Nat} (hC : CIr v l lw lc) : ∃ l1 l2, l = l1 ++ l2 ∧ (∀ a, a ∈ l1 → v (24 + a) < nI k) ∧ lka v (nI k) 96 l = ll 96 l1 ∧ Lk v (v (ll 96 l1)) l2 ∧ ((v (ll 96 l1) = m1 ∧ l2 = []) ∨ (∃ d l3, d < 24 ∧ l2 = d :: l3 ∧ v (ll 96 l1) = nI d ∧ v (24 + d) ≠ nI k ∧ ∀ a, a ∈ l2 → nI k < v (24 + a)) ∨ ∃ d l3, d < 24 ∧ l2 = d :: l3 ∧ v (ll 96 l1) = nI d ∧ v (24 + d) = nI k ∧ Lk v (v (72 + d)) l3 ∧ ∀ a, a ∈ l3 → nI k < v (24 + a)) := by
  obtain ⟨⟨h1, h2⟩, -⟩ := hC
  obtain ⟨l1, l2, e1, e2, e3, e4, e5⟩ := lka_ll (key := nI k) h1
  refine ⟨l1, l2, e1, e2, e5, e4, ?_⟩
  rw [e1, List.pairwise_append] at h2
  cases l2 with
  | nil => exact Or.inl ⟨e4, rfl⟩
  | cons d l3 =>
    have q := e3 d l3 rfl
    by_cases z : v (24 + d) = nI k
    · exact Or.inr (Or.inr ⟨d, l3, e4.2.1, rfl, e4.1, z, e4.2.2, Srt_hd h2.2.1 (Or.inr z.symm)⟩)
    · refine Or.inr (Or.inl ⟨d, l3, e4.2.1, rfl, e4.1, z, fun a ha => ?_⟩)
      have q2 := nlt_cases q z
      rcases List.mem_cons.mp ha with y | y
      · rw [y]; exact q2
      · exact Srt_hd h2.2.1 (Or.inl q2) a y
theorem put_wi {l lw lc l1 ex rest : List Nat} {c k : Nat} {x val : Int32} (hC : CIr v l lw lc) (hP : PIr v) (e : l = l1 ++ (ex ++ rest)) (hx : Lk v x rest) (hc : c < 24) (hv : v c = nI 0) : PIr (v_put v c (ll 96 l1) (nI k) val x) := by
  have h1 := hC.1.1
  have cl : c ∉ l := fun q => n01 (hv.symm.trans ((hC.2.1.2.1 c hc).mpr q))
  obtain ⟨hb, hbn⟩ := ll_b h1 e
  have nd := Lk_nd h1
  rw [e] at nd
  have nd' := List.nodup_append.mp nd
  refine pi_fin hP (fun j h5 _ => v_put_hi hc hb h5) (fun y l hl => ?_)
  have cr : c ∉ rest := fun q => cl (by rw [e]; exact List.mem_append_right _ (List.mem_append_right _ q))
  have c1 : c ∉ l1 := fun q => cl (by rw [e]; exact List.mem_append_left _ q)
  have hl3 : Lk (upd (upd (upd v c (nI 1)) (24 + c) (nI k)) (48 + c) val) y l := Lk_only hl (fun j hj => by rw [upd_ne (by omega), upd_ne (by omega), upd_ne (by omega)])
  have hx3 : Lk (upd (upd (upd v c (nI 1)) (24 + c) (nI k)) (48 + c) val) x rest := Lk_only hx (fun j hj => by rw [upd_ne (by omega), upd_ne (by omega), upd_ne (by omega)])
  obtain ⟨l4, hl4⟩ := Lk_upd hc hx3 cr hl3
  have hc4 : Lk (upd (upd (upd (upd v c (nI 1)) (24 + c) (nI k)) (48 + c) val) (72 + c) x) (nI c) (c :: rest) := ⟨rfl, hc, by rw [upd_eq]; exact Lk_congv hx3 (fun d hd => upd_ne (fun z => cr (by
    have : d = c := by omega
    rw [← this]; exact hd)))⟩
  exact fin_b hb hc4 (fun d hd => by
    rcases List.mem_cons.mp hd with z | z
    · rw [z]; exact hbn c c1 hc
    · exact hbn d (fun y => nd'.2.2 d y d (List.mem_append_right _ z) rfl) (Lk_lt hx d z)) hl4
theorem age_pi {d a : Nat} (hd : d < 24) (ha : a < 24) (hP : PIr v) : PIr (v_age v d a) := by
  have e : ∀ j, 24 ≤ j → j < 139 → v_age v d a j = v j := fun j h1 h2 => by
    unfold v_age
    rw [upd_ne (by omega), upd_ne (by omega), upd_ne (by omega)]
  exact pi_fin hP (fun j h1 h2 => e j (by omega) (by omega)) (fun x l hl => ⟨l, Lk_only hl (fun j hj => e _ (by omega) (by omega))⟩)
theorem age_gi {d a : Nat} {lc : List Nat} (hd : d < 24) (ha : a < 24) (hG : GIr v lc) : GIr (v_age v d a) lc := GIr_cong hG (fun j h1 h2 => by
  unfold v_age
  rw [upd_ne (by omega), upd_ne (by omega), upd_ne (by omega)])
theorem age_hi {d a : Nat} (hd : d < 24) (ha : a < 24) {j : Nat} (hj : 191 ≤ j) : v_age v d a j = v j := by
  unfold v_age
  rw [upd_ne (by omega), upd_ne (by omega), upd_ne (by omega)]
theorem age_mi {d a : Nat} (hd : d < 24) (ha : a < 24) {j : Nat} (hj : 24 ≤ j) (hj2 : j < 139 ∨ 164 ≤ j) : v_age v d a j = v j := by
  unfold v_age
  rw [upd_ne (by omega), upd_ne (by omega), upd_ne (by omega)]
theorem put_sim (hs : Sy g) (hw : zWL.contains w = true) (hw2 : w = 2 ∨ w = 12) (hn : 24 < n) (HC : HCo g n m0 u0 w KO BO) (HR : HRo g n u0 KO BO) (hu : ∀ k, 191 ≤ k → v k = u0 k) (hI : WI v) (a b : Int32) : Sim g w m0 v (f_X10_putKey n w a b 25) (f_X12_puts n 422 a b) := by
  rcases pk_ix a (n := 100) (by decide) with ha | ha | ⟨k, hk, ha⟩
  · refine Sim_c m1 hI (fun mi ml _ => if_pos ha) (fun M ml => ?_)
    unfold f_X12_puts f_X12_isKey
    simp only [lit, ng1, r_lies0 ha, zb_s, zrZ0, if_T, if_pos]
  · refine Sim_c m1 hI (fun mi ml _ => ?_) (fun M ml => ?_)
    · unfold f_X10_putKey
      simp only [lit, ng1, (ge_lt (N := 99) (by decide) ha).2.1, ha, if_T, if_F]
    · unfold f_X12_puts f_X12_isKey
      simp only [lit, ng1, r_lies1 (N := 99) (by decide) ha, zb_s, zrZ0, if_T, if_pos]
  subst ha
  rcases pk_ix b (n := 1000) (by decide) with hb | hb | ⟨q, hq, hb⟩
  · refine Sim_c m1 hI (fun mi ml _ => ?_) (fun M ml => ?_)
    · unfold f_X10_putKey
      have hb' : b < nI 0 := hb
      simp (disch := omega) only [lit, ng1, nLt, nLe, if_neg, hb', if_T]
    · unfold f_X12_puts f_X12_isKey
      simp (disch := omega) only [lit, ng1, r_lies2, r_lies0 hb, zb_s, zrZ1, nEq, if_neg, if_T]
  · refine Sim_c m1 hI (fun mi ml _ => ?_) (fun M ml => ?_)
    · unfold f_X10_putKey
      simp (disch := omega) only [lit, ng1, nLt, nLe, if_neg, (ge_lt (N := 999) (by decide) hb).2.1, (ge_lt (N := 999) (by decide) hb).2.2, if_F]
    · unfold f_X12_puts f_X12_isKey
      simp (disch := omega) only [lit, ng1, r_lies2, r_lies1 (N := 999) (by decide) hb, zb_s, zrZ1, nEq, if_neg, if_T]
  subst hb
  obtain ⟨A, HC⟩ := HC
  have hX : ∀ mi ml, FC w m0 mi → WR mi w v → ∃ f ml', f_X10_putKey n w (nI k) (nI q) 25 (g, mi, ml) = if BO v k = true then some (m3, (g, zrw mi 23 f, ml')) else f_X0_insert n (w + 1) (nI k) (nI q) (g, zrw mi 23 f, ml') := by
    intro mi ml hF hR
    obtain ⟨-, -, h3⟩ := HC mi ml v hF hu hR
    obtain ⟨f, ml', h4⟩ := h3 k hk
    refine ⟨f, ml', ?_⟩
    unfold f_X10_putKey
    simp (disch := omega) only [lit, ng1, ng3, nLt, nLe, if_neg, if_pos, W_gI hs hw, S_ck25 hs, rd_time hR, h4, zb_s, W_gR0 hs hw, C_ck hs hw, zb_id]
    by_cases z : BO v k = true
    · simp (disch := omega) only [z, if_T, nEq, if_neg]
    · simp (disch := omega) only [if_neg z, if_T]
  have hY : ∀ M ml, ∃ M', f_X12_puts n 422 (nI k) (nI q) (g, zrw M 424 v, ml) = (if BO v k = true then some (m3, (g, zrw M' 424 v, ml)) else if lfr v 24 0 = 24 then some (m5, (g, zrw M' 424 v, ml)) else zb (f_X12_linkTo n 422 (nI k) (g, zrw M' 424 v, ml)) fun r9 h10 => zgR h10 13 422 2 fun v11 => zaI h10 21 v11 r9 fun v12 => if v12 = m1 then fb_X12_puts_85 n 422 (nI k) (nI q) (nI (lfr v 24 0)) r9 v12 (nI 0) h10 else zgR h10 13 422 2 fun v13 => zaI h10 21 v13 (nI 24 + v12) fun v14 => if v14 = nI k then fb_X12_puts_85 n 422 (nI k) (nI q) (nI (lfr v 24 0)) r9 v12 (nI 1) h10 else fb_X12_puts_85 n 422 (nI k) (nI q) (nI (lfr v 24 0)) r9 v12 (nI 0) h10) ∧ FM M M' := by
    intro M ml
    obtain ⟨-, h3⟩ := HR M ml v hu
    obtain ⟨M', h4, h5⟩ := h3 k hk
    refine ⟨M', ?_, h5⟩
    unfold f_X12_puts f_X12_isKey fb_X12_puts_84
    simp (disch := omega) only [lit, ng1, ng3, ng5, r_lies2, zb_s, zrZ1, nEq, if_neg, S_ck422 hs, h4, r_lowestFree hs hn]
    by_cases z : BO v k = true
    · simp (disch := omega) only [z, if_T, nEq, if_neg]
    · simp (disch := omega) only [if_neg z, if_T]
      by_cases y : lfr v 24 0 = 24
      · simp only [y, if_T]
      · have := (lfr_sp (v := v) 24 0).1
        simp (disch := omega) only [if_neg y, nm1, if_F]
  by_cases z : BO v k = true
  · refine ⟨m3, v, Ra_0 (fun _ _ => rfl) (Or.inr (Or.inl rfl)), hI, fun _ _ => rfl, fun M ml => ?_, fun mi ml hF hR => ?_⟩
    · obtain ⟨M', h1, h2⟩ := hY M ml
      exact ⟨M', by rw [h1, if_pos z], h2⟩
    · obtain ⟨f, ml', h1⟩ := hX mi ml hF hR
      exact ⟨_, ml', by rw [h1, if_pos z], FC_23w hw2 hR, FC_23⟩
  by_cases y : lfr v 24 0 = 24
  · refine ⟨m5, v, Ra_0 (fun _ _ => rfl) (Or.inr (Or.inr (Or.inl rfl))), hI, fun _ _ => rfl, fun M ml => ?_, fun mi ml hF hR => ?_⟩
    · obtain ⟨M', h1, h2⟩ := hY M ml
      exact ⟨M', by rw [h1, if_neg z, if_pos y], h2⟩
    · obtain ⟨f, ml', h1⟩ := hX mi ml hF hR
      refine ⟨_, ml', ?_, FC_23w hw2 hR, FC_23 (f := f)⟩
      rw [h1, if_neg z]
      unfold f_X0_insert
      simp (disch := omega) only [C_ck hs hw, c_lowestFree hs hw (FC_23w (f := f) hw2 hR) hn, y, zb_s, if_T, c_isCellN, lit, ng5]
  obtain ⟨l, lw, lc, hC, hP, hG⟩ := hI
  have hc : lfr v 24 0 < 24 := by have := (lfr_sp (v := v) 24 0).1; omega
  have hv0 : v (lfr v 24 0) = nI 0 := (lfr_sp (v := v) 24 0).2 (by omega)
  obtain ⟨l1, l2, e1, e2, e3, e4, e5⟩ := lnk_cases (k := k) hC
  obtain ⟨hb, hbn⟩ := ll_b hC.1.1 e1
  have hX2 : ∀ mi ml, FC w m0 mi → WR mi w v → ∃ mi' ml', f_X10_putKey n w (nI k) (nI q) 25 (g, mi, ml) = (zb (f_X11_isCell n (v (ll 96 l1)) (g, mi', ml')) fun r9 h10 => if r9 = nI 0 then fb_X0_insert_54 n (w + 1) (nI k) (nI q) (nI (lfr v 24 0)) (prI (ll 96 l1)) (v (ll 96 l1)) (nI 0) h10 else zgR h10 1 (w + 1) 1 fun v11 => zaI h10 21 v11 (v (ll 96 l1)) fun v12 => if v12 = nI k then fb_X0_insert_54 n (w + 1) (nI k) (nI q) (nI (lfr v 24 0)) (prI (ll 96 l1)) (v (ll 96 l1)) (nI 1) h10 else fb_X0_insert_54 n (w + 1) (nI k) (nI q) (nI (lfr v 24 0)) (prI (ll 96 l1)) (v (ll 96 l1)) (nI 0) h10) ∧ WR mi' w v ∧ FC w mi mi' := by
    intro mi ml hF hR
    obtain ⟨f, ml', h1⟩ := hX mi ml hF hR
    have hR' := FC_23w (f := f) hw2 hR
    refine ⟨_, ml', ?_, hR', FC_23⟩
    rw [h1, if_neg z]
    unfold f_X0_insert fb_X0_insert_53
    simp (disch := omega) only [C_ck hs hw, c_lowestFree hs hw hR' hn, if_neg y, zb_s, c_isCell hc, lit, nEq, if_neg, c_lastBelow hs hw hR' hC.1.1 hn, e3, c_follower hs hw hR' hb]
    rfl
  rcases e5 with ⟨x1, x2⟩ | ⟨d, l3, x1, x2, x3, x4, x5⟩ | ⟨d, l3, x1, x2, x3, x4, x5, x6⟩
  · have hp := ci_put (val := nI q) (ex := []) (rest := []) (x := m1) hC (by rw [e1, x2]; rfl) rfl hc hv0 hk e2 (by simp)
    refine ⟨nI (lfr v 24 0), v_put v (lfr v 24 0) (ll 96 l1) (nI k) (nI q) m1, Ra_0 (fun k hk => v_put_hi hc hb (by omega)) (Or.inr (Or.inr (Or.inr ⟨lfr v 24 0, by omega, rfl⟩))), ⟨_, lw, lc, CIx_r hp.1, put_wi (ex := []) (rest := []) hC hP (by rw [e1, x2]; rfl) rfl hc hv0, GIr_cong hG (fun j h5 _ => v_put_hi hc hb (by omega))⟩, fun j h5 => v_put_hi hc hb (by omega), fun M ml => ?_, fun mi ml hF hR => ?_⟩
    · obtain ⟨M', h1, h2⟩ := hY M ml
      refine ⟨M', ?_, h2⟩
      rw [h1, if_neg z, if_neg y, r_linkTo hs hC.1.1 hn, e3]
      simp (disch := omega) only [zb_s, S_gR422_2 hs, R_a hs, x1, if_T]
      exact (r_put85 hs hc hb).1 m1
    · obtain ⟨mi', ml', h1, h2, h3⟩ := hX2 mi ml hF hR
      obtain ⟨mi'', p1, p2, p3⟩ := (c_put54 (ml := ml') (n := n) (key := nI k) (val := nI q) hs hw h2 hc hb).1 m1
      refine ⟨mi'', ml', ?_, p2, FC_t h3 (FC_w p3)⟩
      rw [h1, x1, c_isCellN]
      simp only [zb_s, if_T]
      exact p1
  · have hp := ci_put (val := nI q) (ex := []) (rest := l2) (x := nI d) hC (by rw [e1]; rfl) (by rw [← x3]; exact e4) hc hv0 hk e2 x5
    refine ⟨nI (lfr v 24 0), v_put v (lfr v 24 0) (ll 96 l1) (nI k) (nI q) (nI d), Ra_0 (fun k hk => v_put_hi hc hb (by omega)) (Or.inr (Or.inr (Or.inr ⟨lfr v 24 0, by omega, rfl⟩))), ⟨_, lw, lc, CIx_r hp.1, put_wi (ex := []) (rest := l2) hC hP (by rw [e1]; rfl) (by rw [← x3]; exact e4) hc hv0, GIr_cong hG (fun j h5 _ => v_put_hi hc hb (by omega))⟩, fun j h5 => v_put_hi hc hb (by omega), fun M ml => ?_, fun mi ml hF hR => ?_⟩
    · obtain ⟨M', h1, h2⟩ := hY M ml
      refine ⟨M', ?_, h2⟩
      rw [h1, if_neg z, if_neg y, r_linkTo hs hC.1.1 hn, e3]
      simp (disch := omega) only [zb_s, S_gR422_2 hs, R_a hs, x3, nm1, if_F, nI_add, x4]
      exact (r_put85 hs hc hb).1 (nI d)
    · obtain ⟨mi', ml', h1, h2, h3⟩ := hX2 mi ml hF hR
      obtain ⟨mi'', p1, p2, p3⟩ := (c_put54 (ml := ml') (n := n) (key := nI k) (val := nI q) hs hw h2 hc hb).1 (nI d)
      refine ⟨mi'', ml', ?_, p2, FC_t h3 (FC_w p3)⟩
      rw [h1, x3, c_isCell x1]
      simp (disch := omega) only [zb_s, nEq, if_neg, C_gR1 hs hw, A_aI3 hs hw, rd_key h2, x4, if_F]
      exact p1
  · have hp := ci_put (val := nI q) (ex := [d]) (rest := l3) (x := v (72 + d)) hC (by rw [e1, x2]; rfl) x5 hc hv0 hk e2 x6
    have hd : d ∈ l := by rw [e1, x2]; simp
    have hdn : d ∉ l1 ++ lfr v 24 0 :: l3 := fun u => by
      have nd := Lk_nd hC.1.1
      rw [e1, x2] at nd
      have nd' := List.nodup_append.mp nd
      rcases List.mem_append.mp u with u | u
      · exact nd'.2.2 d u d (by simp) rfl
      · rcases List.mem_cons.mp u with u | u
        · exact hp.2 (by rw [← u]; exact hd)
        · exact (List.nodup_cons.mp nd'.2.1).1 u
    obtain ⟨rm1, rm2⟩ := ci_room hp.1 x1
    have hw139 := hC.2.2.2.1
    refine ⟨nI (lfr v 24 0), v_age (v_put v (lfr v 24 0) (ll 96 l1) (nI k) (nI q) (v (72 + d))) d lw.length, Ra_0 (fun k hk => by rw [age_mi x1 rm1 (by omega) (by omega)]; exact v_put_hi hc hb (by omega)) (Or.inr (Or.inr (Or.inr ⟨lfr v 24 0, by omega, rfl⟩))), ⟨_, _, lc, ci_age hp.1 x1 hdn, age_pi x1 rm1 (put_wi (ex := [d]) (rest := l3) hC hP (by rw [e1, x2]; rfl) x5 hc hv0), age_gi x1 rm1 (GIr_cong hG (fun j h5 _ => v_put_hi hc hb (by omega)))⟩, fun j h5 => by rw [age_hi x1 rm1 h5]; exact v_put_hi hc hb (by omega), fun M ml => ?_, fun mi ml hF hR => ?_⟩
    · obtain ⟨M', h1, h2⟩ := hY M ml
      refine ⟨M', ?_, h2⟩
      rw [h1, if_neg z, if_neg y, r_linkTo hs hC.1.1 hn, e3]
      simp (disch := omega) only [zb_s, S_gR422_2 hs, R_a hs, x3, nm1, if_F, nI_add, x4, if_T]
      exact (r_put85 hs hc hb).2 d _ x1 rm1 hw139
    · obtain ⟨mi', ml', h1, h2, h3⟩ := hX2 mi ml hF hR
      obtain ⟨mi'', p1, p2, p3⟩ := (c_put54 (ml := ml') (n := n) (key := nI k) (val := nI q) hs hw h2 hc hb).2 d _ x1 rm1 hw139
      refine ⟨mi'', ml', ?_, p2, FC_t h3 (FC_w p3)⟩
      rw [h1, x3, c_isCell x1]
      simp (disch := omega) only [zb_s, nEq, if_neg, C_gR1 hs hw, A_aI3 hs hw, rd_key h2, x4, if_T]
      exact p1
theorem drop_sim (hs : Sy g) (hw : zWL.contains w = true) (hn : 24 < n) (hI : WI v) (a : Int32) : Sim g w m0 v (f_X10_dropKey n w a) (f_X12_drops n 422 a) := by
  rcases pk_ix a (n := 100) (by decide) with ha | ha | ⟨k, hk, ha⟩
  · refine Sim_c m1 hI (fun mi ml _ => if_pos ha) (fun M ml => ?_)
    unfold f_X12_drops f_X12_isKey
    simp only [lit, ng1, r_lies0 ha, zb_s, zrZ0, if_T, if_pos]
  · refine Sim_c m1 hI (fun mi ml _ => ?_) (fun M ml => ?_)
    · unfold f_X10_dropKey
      simp only [lit, ng1, (ge_lt (N := 99) (by decide) ha).2.1, (ge_lt (N := 99) (by decide) ha).2.2, if_T, if_F]
    · unfold f_X12_drops f_X12_isKey
      simp only [lit, ng1, r_lies1 (N := 99) (by decide) ha, zb_s, zrZ0, if_T, if_pos]
  subst ha
  have hI' := hI
  obtain ⟨l, lw, lc, hC, hP, hG⟩ := hI
  obtain ⟨l1, l2, e1, e2, e3, e4, e5⟩ := lnk_cases (k := k) hC
  obtain ⟨hb, hbn⟩ := ll_b hC.1.1 e1
  have hb2 : ll 96 l1 < 5815 := by omega
  have h39 := hC.2.2.2.1
  rcases e5 with ⟨x1, x2⟩ | ⟨d, l3, x1, x2, x3, x4, x5⟩ | ⟨d, l3, x1, x2, x3, x4, x5, x6⟩
  · refine Sim_c m3 hI' (fun mi ml hR => ?_) (fun M ml => ?_)
    · unfold f_X10_dropKey f_X0_remove
      simp (disch := omega) only [lit, ng1, ng3, nLt, if_neg, if_pos, W_gR0 hs hw, C_ck hs hw, c_lastBelow hs hw hR hC.1.1 hn, e3, zb_s, c_follower hs hw hR hb, x1, c_isCellN, if_T]
    · unfold f_X12_drops f_X12_isKey
      simp (disch := omega) only [lit, ng1, ng3, r_lies2, zb_s, zrZ1, nEq, if_neg, S_ck422 hs, r_linkTo hs hC.1.1 hn, e3, S_gR422_2 hs, R_a hs, x1, if_T]
  · refine Sim_c m3 hI' (fun mi ml hR => ?_) (fun M ml => ?_)
    · unfold f_X10_dropKey f_X0_remove
      simp (disch := omega) only [lit, ng1, ng3, nLt, if_neg, if_pos, W_gR0 hs hw, C_ck hs hw, c_lastBelow hs hw hR hC.1.1 hn, e3, zb_s, c_follower hs hw hR hb, x3, c_isCell x1, nEq, C_gR1 hs hw, A_aI3 hs hw, rd_key hR, x4, if_F]
    · unfold f_X12_drops f_X12_isKey
      simp (disch := omega) only [lit, ng1, ng3, r_lies2, zb_s, zrZ1, nEq, if_neg, S_ck422 hs, r_linkTo hs hC.1.1 hn, e3, S_gR422_2 hs, R_a hs, x3, nm1, if_F, nI_add, x4]
  · have hp := ci_drop (ex := [d]) (rest := l3) (x := v (72 + d)) hC (by rw [e1, x2]; rfl) x5
    have hdn : d ∉ l1 ++ l3 := fun u => by
      have nd := Lk_nd hC.1.1
      rw [e1, x2] at nd
      have nd' := List.nodup_append.mp nd
      rcases List.mem_append.mp u with u | u
      · exact nd'.2.2 d u d (by simp) rfl
      · exact (List.nodup_cons.mp nd'.2.1).1 u
    obtain ⟨rm1, rm2⟩ := ci_room hp x1
    have hP' : PIr (upd v (ll 96 l1) (v (72 + d))) := pi_fin hP (fun j h5 _ => upd_ne (by omega)) (fun x l' hl' => fin_b hb x5 (fun c hc => hbn c (fun u => by
      have nd := Lk_nd hC.1.1
      rw [e1, x2] at nd
      exact (List.nodup_append.mp nd).2.2 c u c (List.mem_cons_of_mem _ hc) rfl) (Lk_lt x5 c hc)) hl')
    have h39' : upd v (ll 96 l1) (v (72 + d)) 139 = nI lw.length := by rw [upd_ne (by omega)]; exact h39
    refine ⟨nI d, v_age (upd v (ll 96 l1) (v (72 + d))) d lw.length, Ra_0 (fun k hk => by rw [age_mi x1 rm1 (by omega) (by omega)]; exact upd_ne (by omega)) (Or.inr (Or.inr (Or.inr ⟨d, by omega, rfl⟩))), ⟨_, _, lc, ci_age hp x1 hdn, age_pi x1 rm1 hP', age_gi x1 rm1 (GIr_cong hG (fun j h5 _ => upd_ne (by omega)))⟩, fun j h5 => by rw [age_hi x1 rm1 h5]; exact upd_ne (by omega), fun M ml => ⟨M, ?_, FM_r M⟩, fun mi ml hF hR => ?_⟩
    · unfold f_X12_drops f_X12_isKey
      simp (disch := omega) only [lit, ng1, ng3, r_lies2, zb_s, zrZ1, nEq, if_neg, S_ck422 hs, r_linkTo hs hC.1.1 hn, e3, S_gR422_2 hs, R_a hs, R_e hs, x3, nm1, if_F, nI_add, x4, if_T, r_ages hs x1 rm1 h39']
      rfl
    · obtain ⟨mi', q1, q2, q3⟩ := c_leadTo (ml := ml) (n := n) hs hw hR hb (x := v (72 + d))
      obtain ⟨mi'', p1, p2, p3⟩ := c_retire (ml := ml) (n := n) hs hw q2 x1 rm1 h39'
      refine ⟨mi'', ml, ?_, p2, FC_w (Fw_t q3 p3)⟩
      unfold f_X10_dropKey f_X0_remove
      simp (disch := omega) only [lit, ng1, ng3, nLt, if_neg, if_pos, W_gR0 hs hw, C_ck hs hw, c_lastBelow hs hw hR hC.1.1 hn, e3, zb_s, c_follower hs hw hR hb, x3, c_isCell x1, nEq, C_gR1 hs hw, C_gR3 hs hw, A_aI3 hs hw, A_aI5 hs hw, rd_key hR, rd_next hR, x4, if_T, q1, p1]
end
