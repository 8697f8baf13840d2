/-! the tape cut into tokens: plain functions -/
def isL (x : Nat) : Bool := decide (97 ≤ x) && decide (x ≤ 122)
def isG (x : Nat) : Bool := decide (48 ≤ x) && decide (x ≤ 57)
def sc (q : Nat → Bool) (b : Nat → Nat) (len : Nat) : Nat → Nat → Nat
  | 0, k => k
  | f + 1, k => if k < len ∧ q (b k) = true then sc q b len f (k + 1) else k
def sg (b : Nat → Nat) : Nat → Nat → List Nat
  | 0, _ => []
  | c + 1, k => b k :: sg b c (k + 1)
def pC (b : Nat → Nat) : Nat → Nat → Nat → Nat
  | 0, _, a => a
  | c + 1, k, a => pC b c (k + 1) (if 10 * a + b k - 48 < 10000 then 10 * a + b k - 48 else 10000)
def pR (b : Nat → Nat) : Nat → Nat → Nat → Nat
  | 0, _, a => a
  | c + 1, k, a => pR b c (k + 1) (if a ≤ 1000000 then 10 * a + b k - 48 else a)
def WN : List (List Nat) := [[105, 102], [111, 114], [97, 110, 100], [110, 111, 116], [99, 111, 115, 116, 115], [98, 97, 114, 115], [110, 111, 100, 101], [108, 101, 118, 101, 108], [99, 104, 105, 108, 100], [109, 97, 110, 121], [107, 101, 121], [116, 105, 109, 101], [109, 111, 111, 100], [112, 117, 116], [100, 114, 111, 112], [101, 110, 116, 101, 114], [115, 116, 101, 112], [112, 97, 114, 107], [108, 101, 97, 118, 101], [116, 105, 99, 107], [98, 101, 103, 105, 110], [97, 115], [116, 105, 109, 101, 115], [97, 116], [118, 97, 108, 117, 101], [100, 111, 110, 101], [108, 97, 116, 101, 115, 116], [119, 97, 105, 116, 115], [103, 114, 97, 99, 101, 115]]
def WS : List (List Nat) := [[99, 111, 115, 116, 115], [98, 97, 114, 115], [105, 102], [111, 114], [97, 110, 100], [110, 111, 116], [110, 111, 100, 101], [108, 101, 118, 101, 108], [99, 104, 105, 108, 100], [109, 97, 110, 121], [107, 101, 121], [109, 111, 111, 100], [116, 105, 109, 101], [100, 111, 110, 101], [108, 97, 116, 101, 115, 116], [119, 97, 105, 116, 115], [103, 114, 97, 99, 101, 115], [97, 116], [118, 97, 108, 117, 101], [112, 117, 116], [97, 115], [100, 114, 111, 112], [101, 110, 116, 101, 114], [115, 116, 101, 112], [112, 97, 114, 107], [108, 101, 97, 118, 101], [116, 105, 99, 107], [98, 101, 103, 105, 110], [116, 105, 109, 101, 115]]
def wdx : List (List Nat) → Nat → List Nat → Nat
  | [], _, _ => 0
  | w :: l, i, s => if s = w then i else wdx l (i + 1) s
def wd (s : List Nat) : Nat := wdx WS 1 s
def pTk (b : Nat → Nat) (len : Nat) : Nat → Nat → List (Nat × Nat × Nat)
  | 0, _ => []
  | f + 1, k => if len ≤ k then [] else if isL (b k) = true then (wd (sg b (sc isL b len 401 k - k) k), k, sc isL b len 401 k) :: pTk b len f (sc isL b len 401 k) else if isG (b k) = true then (50, k, sc isG b len 401 k) :: pTk b len f (sc isG b len 401 k) else if b k = 32 then pTk b len f (k + 1) else (100 + b k, k, k + 1) :: pTk b len f (k + 1)
theorem WN_ok : ∀ i, i < 29 → zsby.getD i [] = (WN.getD i []).map nI ∧ zsln.getD i 0 = (WN.getD i []).length ∧ (WN.getD i []).length < 100 := by decide +kernel
theorem sc_le {q : Nat → Bool} {b : Nat → Nat} {len : Nat} : ∀ (f k : Nat), k ≤ len → k ≤ sc q b len f k ∧ sc q b len f k ≤ len
  | 0, k, h => ⟨Nat.le_refl _, h⟩
  | f + 1, k, h => by
    unfold sc
    by_cases z : k < len ∧ q (b k) = true
    · rw [if_pos z]
      have := sc_le (q := q) (b := b) (len := len) f (k + 1) z.1
      exact ⟨by omega, this.2⟩
    · rw [if_neg z]
      exact ⟨Nat.le_refl _, h⟩
theorem sc_gt {q : Nat → Bool} {b : Nat → Nat} {len f k : Nat} (h : k < len) (hq : q (b k) = true) : k < sc q b len (f + 1) k := by
  unfold sc
  rw [if_pos ⟨h, hq⟩]
  have := (sc_le (q := q) (b := b) (len := len) f (k + 1) h).1
  omega
theorem sc_f {q : Nat → Bool} {b : Nat → Nat} {len : Nat} : ∀ (f f' k : Nat), len < k + f → len < k + f' → sc q b len f k = sc q b len f' k
  | 0, 0, k, _, _ => rfl
  | 0, f' + 1, k, h, _ => by
    unfold sc
    rw [if_neg (fun z => by omega)]
  | f + 1, 0, k, _, h => by
    unfold sc
    rw [if_neg (fun z => by omega)]
  | f + 1, f' + 1, k, h, h' => by
    unfold sc
    by_cases z : k < len ∧ q (b k) = true
    · rw [if_pos z, if_pos z]
      exact sc_f f f' (k + 1) (by omega) (by omega)
    · rw [if_neg z, if_neg z]
theorem pTk_len {b : Nat → Nat} {len : Nat} : ∀ (f k : Nat), k ≤ len → (pTk b len f k).length ≤ len - k
  | 0, k, _ => by simp [pTk]
  | f + 1, k, h => by
    unfold pTk
    by_cases z : len ≤ k
    · rw [if_pos z]; simp
    · rw [if_neg z]
      by_cases z1 : isL (b k) = true
      · rw [if_pos z1]
        have a : k < sc isL b len 401 k := sc_gt (f := 400) (by omega) z1 (len := len)
        have c := sc_le (q := isL) (b := b) (len := len) 401 k h
        have := pTk_len (b := b) f _ c.2
        simp; omega
      · rw [if_neg z1]
        by_cases z2 : isG (b k) = true
        · rw [if_pos z2]
          have a : k < sc isG b len 401 k := sc_gt (f := 400) (by omega) z2 (len := len)
          have c := sc_le (q := isG) (b := b) (len := len) 401 k h
          have := pTk_len (b := b) f _ c.2
          simp; omega
        · rw [if_neg z2]
          have := pTk_len (b := b) f (k + 1) (by omega : k + 1 ≤ len)
          by_cases z3 : b k = 32
          · rw [if_pos z3]; omega
          · rw [if_neg z3]; simp; omega
theorem pCR {b : Nat → Nat} : ∀ (c k a a' : Nat), (∀ j, k ≤ j → j < k + c → isG (b j) = true) → (a < 10000 → a' = a) → (10000 ≤ a → 10000 ≤ a') → a ≤ 10000 → a' ≤ 10000009 → (pC b c k a < 10000 → pR b c k a' = pC b c k a) ∧ (10000 ≤ pC b c k a → 10000 ≤ pR b c k a') ∧ pC b c k a ≤ 10000 ∧ pR b c k a' ≤ 10000009
  | 0, k, a, a', _, h1, h2, h3, h4 => ⟨fun h => h1 h, fun h => h2 h, h3, h4⟩
  | c + 1, k, a, a', hG, h1, h2, h3, h4 => by
    unfold pC pR
    have g := hG k (by omega) (by omega)
    simp [isG] at g
    refine pCR c (k + 1) _ _ (fun j hj hj2 => hG j (by omega) (by omega)) ?_ ?_ ?_ ?_
    · intro h
      split at h
      · rename_i z
        by_cases y : a < 10000
        · rw [h1 y, if_pos (by omega), if_pos z]
        · omega
      · omega
    · intro h
      split at h
      · omega
      · rename_i z
        by_cases y : a < 10000
        · rw [h1 y, if_pos (by omega)]; omega
        · have := h2 (by omega)
          split
          · omega
          · omega
    · split <;> omega
    · split <;> omega
