/-! when a street is open, in the reference's row of numbers -/
def mAt (w : va_W) (s c : Int) : Prop := (gi w 12 (10 * s + 10).toNat).toInt = c ∨ (gi w 12 (10 * s + 11).toNat).toInt = c
def mOf (x k : Int32) : Prop := ((x >>> (k &&& 31)) &&& 1).toInt = 1
def mSign (w : va_W) (x : Int32) (s c : Int) : Prop := ((gi w 12 (10 * s + 10).toNat).toInt = c ∧ mOf x 0) ∨ (¬ (gi w 12 (10 * s + 10).toNat).toInt = c ∧ mOf x 1)
def mCl1 (w : va_W) (k : Int) (c d : Int) : Prop := ¬ (gi w 0 27).toInt = 0 ∧ (gi w 12 (2 * k + 140).toNat).toInt = c ∧ (gi w 12 (2 * k + 141).toNat).toInt = d
def mCl (w : va_W) (c d : Int) : Prop := ∃ k : Int, 0 ≤ k ∧ k < (gi w 12 2).toInt ∧ mCl1 w k c d
def mLf1 (w : va_W) (k : Int) (s h : Int) : Prop := (gi w 12 (3 * k + 156).toNat).toInt = s ∧ (gi w 12 (3 * k + 157).toNat).toInt ≤ h % 24 ∧ h % 24 < (gi w 12 (3 * k + 158).toNat).toInt
def mLf (w : va_W) (s h : Int) : Prop := ∃ k : Int, 0 ≤ k ∧ k < (gi w 12 3).toInt ∧ mLf1 w k s h
def mDay (w : va_W) (s c d : Int) : Prop := mSign w (gi w 12 (10 * s + (3 + d % 7) + 10).toNat) s c ∧ ¬ mCl w (gi w 12 (10 * s + 10).toNat).toInt (d % 360) ∧ ¬ mCl w (gi w 12 (10 * s + 11).toNat).toInt (d % 360)
def mOpen (w : va_W) (s c h : Int) : Prop := mAt w s c ∧ mDay w s c (h / 24) ∧ ¬ mLf w s h
def mOw (w : va_W) (k a : Int) : Prop := mOpen w k (gi w 12 (9 * a + 216).toNat).toInt (gi w 12 (9 * a + 220).toNat).toInt
def mAS (w : va_W) (a : Int) : Prop := ∃ k : Int, 0 ≤ k ∧ k < (gi w 12 1).toInt ∧ mOw w k a
theorem mCl_no {w : va_W} {c d n : Int} (h : ∀ k : Int, 0 ≤ k → k < n → ¬ mCl1 w k c d) (hn : (gi w 12 2).toInt ≤ n) : ¬ mCl w c d := by
  rintro ⟨k, h0, h1, h2⟩; exact h k h0 (by omega) h2
theorem mCl_off {w : va_W} {c d : Int} (h : (gi w 0 27).toInt = 0) : ¬ mCl w c d := by
  rintro ⟨k, h0, h1, h2⟩; exact h2.1 h
theorem mLf_no {w : va_W} {c d n : Int} (h : ∀ k : Int, 0 ≤ k → k < n → ¬ mLf1 w k c d) (hn : (gi w 12 3).toInt ≤ n) : ¬ mLf w c d := by
  rintro ⟨k, h0, h1, h2⟩; exact h k h0 (by omega) h2
theorem all_step {P : Int → Prop} {n m : Int} (h : ∀ k : Int, 0 ≤ k → k < n → ¬ P k) (hn : ¬ P n) (hm : m = n + 1) : ∀ k : Int, 0 ≤ k → k < m → ¬ P k := by
  intro k h0 h1
  by_cases e : k < n
  · exact h k h0 e
  · have e2 : k = n := by omega
    rw [e2]; exact hn
theorem all_none {P : Int → Prop} : ∀ k : Int, 0 ≤ k → k < 0 → ¬ P k := fun k h0 h1 => absurd h1 (by omega)
theorem mAS_no {w : va_W} {a : Int} (h : mAS w a) (hn : ∀ k : Int, 0 ≤ k → k < (gi w 12 1).toInt → ¬ mOw w k a) : False := by
  obtain ⟨k, h0, h1, h2⟩ := h; exact hn k h0 h1 h2
theorem mAS_FE {E : List (Nat × Nat × Nat)} {w u : va_W} {a : Int} (h : FE ksM E w u) (h71 : ∀ j : Nat, inE E 71 j = false) (h27 : inE E 12 27 = false) (hq : mAS w a) : mAS u a := by
  have h12 : ∀ j : Nat, gi u 12 j = gi w 12 j := fun j => h.gi kM_at12 (h71 j) rfl
  have e27 : gi u 0 27 = gi w 0 27 := h.gi kM_at0 h27 rfl
  unfold mAS mOw mOpen mAt mDay mSign mCl mLf mCl1 mLf1 at hq ⊢
  simp only [h12, e27]
  exact hq
