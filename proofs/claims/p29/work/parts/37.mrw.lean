/-! how many of the signs that wait are brackets -/
def brkN (w : va_W) : Nat → Nat
  | 0 => 0
  | n + 1 => brkN w n + if (gi w 9 n).toInt = 91 then 1 else 0
theorem brk_le (w : va_W) : ∀ n : Nat, brkN w n ≤ n
  | 0 => Nat.le_refl 0
  | n + 1 => by
    have h := brk_le w n
    show brkN w n + (if (gi w 9 n).toInt = 91 then 1 else 0) ≤ n + 1
    split <;> omega
theorem brk_pos {w : va_W} {j : Nat} (h : (gi w 9 j).toInt = 91) : ∀ n : Nat, j < n → 1 ≤ brkN w n
  | 0, hj => absurd hj (by omega)
  | n + 1, hj => by
    show 1 ≤ brkN w n + (if (gi w 9 n).toInt = 91 then 1 else 0)
    by_cases e : j = n
    · subst e; rw [if_pos h]; omega
    · have := brk_pos h n (by omega); omega
theorem brk_step {w : va_W} {a b : Int} (h0 : 0 ≤ b) (hb : a = b + 1) (h : ¬ (gi w 9 b.toNat).toInt = 91) : brkN w b.toNat = brkN w a.toNat := by
  have e : a.toNat = b.toNat + 1 := by omega
  rw [e]; show _ = brkN w b.toNat + (if (gi w 9 b.toNat).toInt = 91 then 1 else 0)
  rw [if_neg h]; rfl
/-! what the code of a clause must be, so that it can be reckoned out -/
def okT (x : Int32) (d d' : Int) : Prop := ((x &&& 15).toInt = 0 ∧ d' = d + 1) ∨ ((x &&& 15).toInt = 1 ∧ 0 ≤ (x >>> (4 &&& 31)).toInt ∧ (x >>> (4 &&& 31)).toInt ≤ 9 ∧ d' = d + 1) ∨ ((x &&& 15).toInt = 11 ∧ 1 ≤ d ∧ d' = d) ∨ (¬ (x &&& 15).toInt = 0 ∧ ¬ (x &&& 15).toInt = 1 ∧ ¬ (x &&& 15).toInt = 11 ∧ 2 ≤ d ∧ d' = d - 1)
def okC (w : va_W) (t b e : Int) : Prop := ∃ D : Int → Int, D b = 0 ∧ D e = 1 ∧ ∀ i : Int, b ≤ i → i < e → okT (gi w 2 (400 * t + 1 * i + 0).toNat) (D i) (D (i + 1)) ∧ 0 ≤ D (i + 1) ∧ D (i + 1) ≤ 64
def RW (w : va_W) : Prop := ∀ r c : Int, 0 ≤ r → r ≤ 5 → 0 ≤ c → c < (gi w 5 r.toNat).toInt → (gi w 4 (36 * r + 3 * c + 1).toNat).toInt < 0 ∨ ((gi w 4 (36 * r + 3 * c + 1).toNat).toInt ≤ (gi w 4 (36 * r + 3 * c + 2).toNat).toInt ∧ (gi w 4 (36 * r + 3 * c + 2).toNat).toInt ≤ 400 ∧ okC w r (gi w 4 (36 * r + 3 * c + 1).toNat).toInt (gi w 4 (36 * r + 3 * c + 2).toNat).toInt)
theorem RW_eq {w u : va_W} (h2 : ∀ j : Nat, gi u 2 j = gi w 2 j) (h4 : ∀ j : Nat, gi u 4 j = gi w 4 j) (h5 : ∀ j : Nat, gi u 5 j = gi w 5 j) (h : RW w) : RW u := by
  unfold RW okC at h ⊢
  simp only [h2, h4, h5]
  exact h
theorem RW_FE {E : List (Nat × Nat × Nat)} {w u : va_W} (h : FE ksM E w u) (e2 : ∀ j : Nat, inE E 61 j = false) (e4 : ∀ j : Nat, inE E 63 j = false) (e5 : ∀ j : Nat, inE E 64 j = false) (hq : RW w) : RW u :=
  RW_eq (fun j => h.gi kM_at2 (e2 j) rfl) (fun j => h.gi kM_at4 (e4 j) rfl) (fun j => h.gi kM_at5 (e5 j) rfl) hq
theorem RW_F1 {w u : va_W} {q k : Nat} (h : F1 w u q k) (n2 : 2 ≠ q) (n4 : 4 ≠ q) (n5 : 5 ≠ q) (hq : RW w) : RW u :=
  RW_eq (fun _ => h.gi (Or.inl n2) rfl) (fun _ => h.gi (Or.inl n4) rfl) (fun _ => h.gi (Or.inl n5) rfl) hq
