/-! how many of the signs that wait are brackets -/
def brkN (w : va_W) : Nat → Nat
  | 0 => 0
  | n + 1 => brkN w n + if (gi w 9 n).toInt = 91 then 1 else 0
theorem brk_le (w : va_W) : ∀ n : Nat, brkN w n ≤ n
  | 0 => Nat.le_refl 0
  | n + 1 => by
    have h := brk_le w n
    show brkN w n + (if (gi w 9 n).toInt = 91 then 1 else 0) ≤ n + 1
    split <;> omega
theorem brk_pos {w : va_W} {j : Nat} (h : (gi w 9 j).toInt = 91) : ∀ n : Nat, j < n → 1 ≤ brkN w n
  | 0, hj => absurd hj (by omega)
  | n + 1, hj => by
    show 1 ≤ brkN w n + (if (gi w 9 n).toInt = 91 then 1 else 0)
    by_cases e : j = n
    · subst e; rw [if_pos h]; omega
    · have := brk_pos h n (by omega); omega
theorem brk_step {w : va_W} {a b : Int} (h0 : 0 ≤ b) (hb : a = b + 1) (h : ¬ (gi w 9 b.toNat).toInt = 91) : brkN w b.toNat = brkN w a.toNat := by
  have e : a.toNat = b.toNat + 1 := by omega
  rw [e]; show _ = brkN w b.toNat + (if (gi w 9 b.toNat).toInt = 91 then 1 else 0)
  rw [if_neg h]; rfl
/-! what the code of a clause must be, so that it can be reckoned out -/
def okT (x : Int32) (d d' : Int) : Prop := ((x &&& 15).toInt = 0 ∧ d' = d + 1) ∨ ((x &&& 15).toInt = 1 ∧ 0 ≤ (x >>> (4 &&& 31)).toInt ∧ (x >>> (4 &&& 31)).toInt ≤ 9 ∧ d' = d + 1) ∨ ((x &&& 15).toInt = 11 ∧ 1 ≤ d ∧ d' = d) ∨ (¬ (x &&& 15).toInt = 0 ∧ ¬ (x &&& 15).toInt = 1 ∧ ¬ (x &&& 15).toInt = 11 ∧ 2 ≤ d ∧ d' = d - 1)
def okC (w : va_W) (t b e : Int) : Prop := ∃ D : Int → Int, D b = 0 ∧ D e = 1 ∧ ∀ i : Int, b ≤ i → i < e → okT (gi w 2 (400 * t + 1 * i + 0).toNat) (D i) (D (i + 1)) ∧ 0 ≤ D (i + 1) ∧ D (i + 1) ≤ 64
def RW (w : va_W) : Prop := ∀ r c : Int, 0 ≤ r → r ≤ 5 → 0 ≤ c → c < (gi w 5 r.toNat).toInt → (gi w 4 (36 * r + 3 * c + 1).toNat).toInt < 0 ∨ ((gi w 4 (36 * r + 3 * c + 1).toNat).toInt ≤ (gi w 4 (36 * r + 3 * c + 2).toNat).toInt ∧ (gi w 4 (36 * r + 3 * c + 2).toNat).toInt ≤ 400 ∧ okC w r (gi w 4 (36 * r + 3 * c + 1).toNat).toInt (gi w 4 (36 * r + 3 * c + 2).toNat).toInt)
theorem RW_eq {w u : va_W} (h2 : ∀ j : Nat, gi u 2 j = gi w 2 j) (h4 : ∀ j : Nat, gi u 4 j = gi w 4 j) (h5 : ∀ j : Nat, gi u 5 j = gi w 5 j) (h : RW w) : RW u := by
  unfold RW okC at h ⊢
  simp only [h2, h4, h5]
  exact h
theorem RW_FE {E : List (Nat × Nat × Nat)} {w u : va_W} (h : FE ksM E w u) (e2 : ∀ j : Nat, inE E 61 j = false) (e4 : ∀ j : Nat, inE E 63 j = false) (e5 : ∀ j : Nat, inE E 64 j = false) (hq : RW w) : RW u :=
  RW_eq (fun j => h.gi kM_at2 (e2 j) rfl) (fun j => h.gi kM_at4 (e4 j) rfl) (fun j => h.gi kM_at5 (e5 j) rfl) hq
theorem RW_F1 {w u : va_W} {q k : Nat} (h : F1 w u q k) (n2 : 2 ≠ q) (n4 : 4 ≠ q) (n5 : 5 ≠ q) (hq : RW w) : RW u :=
  RW_eq (fun _ => h.gi (Or.inl n2) rfl) (fun _ => h.gi (Or.inl n4) rfl) (fun _ => h.gi (Or.inl n5) rfl) hq
/-! entries that join two, among the signs that wait -/
def binN (w : va_W) : Nat → Nat
  | 0 => 0
  | n + 1 => binN w n + if (gi w 9 n).toInt = 12 ∨ (gi w 9 n).toInt = 13 then 1 else 0
theorem bin_le (w : va_W) : ∀ n : Nat, binN w n ≤ n
  | 0 => Nat.le_refl 0
  | n + 1 => by
    have h := bin_le w n
    show binN w n + (if (gi w 9 n).toInt = 12 ∨ (gi w 9 n).toInt = 13 then 1 else 0) ≤ n + 1
    split <;> omega
theorem bin_eq {w w' : va_W} : ∀ n : Nat, (∀ j : Nat, j < n → gi w' 9 j = gi w 9 j) → binN w' n = binN w n
  | 0, _ => rfl
  | n + 1, h => by
    show binN w' n + (if (gi w' 9 n).toInt = 12 ∨ (gi w' 9 n).toInt = 13 then 1 else 0) = binN w n + (if (gi w 9 n).toInt = 12 ∨ (gi w 9 n).toInt = 13 then 1 else 0)
    rw [bin_eq n (fun j hj => h j (by omega)), h n (by omega)]
theorem bin_FE {E : List (Nat × Nat × Nat)} {w u : va_W} (n : Nat) (h : FE ksM E w u) (hE : ∀ j : Nat, inE E 68 j = false) : binN u n = binN w n :=
  bin_eq n (fun j _ => h.gi kM_at9 (hE j) rfl)
theorem bin_F1 {w u : va_W} {q k : Nat} (n : Nat) (h : F1 w u q k) (hn : 9 ≠ q) : binN u n = binN w n :=
  bin_eq n (fun _ _ => h.gi (Or.inl hn) rfl)
theorem bin_ge {w u : va_W} {i : Nat} (n : Nat) (h : F1 w u 9 i) (hn : n ≤ i) : binN u n = binN w n :=
  bin_eq n (fun _ hj => h.gi (Or.inr (by omega)) rfl)
theorem bin_top {w : va_W} {a b : Int} (h0 : 0 ≤ b) (hb : a = b + 1) : (((gi w 9 b.toNat).toInt = 12 ∨ (gi w 9 b.toNat).toInt = 13) ∧ binN w a.toNat = binN w b.toNat + 1) ∨ ((¬ (gi w 9 b.toNat).toInt = 12 ∧ ¬ (gi w 9 b.toNat).toInt = 13) ∧ binN w a.toNat = binN w b.toNat) := by
  have e : a.toNat = b.toNat + 1 := by omega
  rw [e]
  show _ ∧ binN w b.toNat + (if (gi w 9 b.toNat).toInt = 12 ∨ (gi w 9 b.toNat).toInt = 13 then 1 else 0) = _ ∨ _ ∧ binN w b.toNat + (if (gi w 9 b.toNat).toInt = 12 ∨ (gi w 9 b.toNat).toInt = 13 then 1 else 0) = _
  by_cases c : (gi w 9 b.toNat).toInt = 12 ∨ (gi w 9 b.toNat).toInt = 13
  · rw [if_pos c]; exact Or.inl ⟨c, rfl⟩
  · rw [if_neg c]; exact Or.inr ⟨⟨fun h => c (Or.inl h), fun h => c (Or.inr h)⟩, rfl⟩
/-! what stays of the seed's number: rows for it -/
theorem TW.rdR {ks : List Nat} {ad : Nat → Nat} {cy : Nat → ClassId} {B s1 lo hi : Int} {qr q κ i n : Nat} {ws : va_W} (hT : TW ks ad cy B qr s1 ws) (hq : ks[q]? = some κ) (hak : ak κ = (0, n)) (hu : erU κ = none) (hi' : i < n) (hlo : rgl.getD (i % 296) 0 = lo) (hhi : rgh.getD (i % 296) (some (some 0)) = some (some hi)) : ∃ x : Int32, gi ws q i = x ∧ lo ≤ x.toInt ∧ x.toInt ≤ hi := by
  obtain ⟨f, he, hf⟩ := hT.2.2.1 q κ hq (by rw [hak]; exact Or.inl rfl)
  rw [hak] at he hf
  have hb := hf i hi'
  unfold EI rhi at hb
  rw [hu, hlo, hhi] at hb
  exact ⟨f i, gi_a he, hb.1, hb.2⟩
theorem TW.rdz {ks : List Nat} {ad : Nat → Nat} {cy : Nat → ClassId} {B s1 lo hi : Int} {qr q κ i n : Nat} {ws : va_W} (hT : TW ks ad cy B qr s1 ws) (hq : ks[q]? = some κ) (hak : ak κ = (2, n)) (hu : erU κ = some (lo, hi)) (hi' : i < n) : ∃ x : Int32, gi ws q i = x ∧ lo ≤ x.toInt ∧ x.toInt ≤ hi := by
  obtain ⟨f, he, hf⟩ := hT.2.2.1 q κ hq (by rw [hak]; exact Or.inr (Or.inl rfl))
  rw [hak] at he hf
  have hb := (EI_u hu).mp (hf i hi')
  exact ⟨f i, gi_a he, hb.1, hb.2⟩
theorem copy_at2 {w0 w w1 : va_W} {qs qd j js : Nat} {i0 k k' x : Int32} {d : Int} (hjs : (js : Int) = j + d) (hI : k.toInt ≤ j ∨ gi w qd j = gi w0 qs js) (h1 : F1 w w1 qd k.toNatClampNeg) (hi : i0.toInt = k.toInt + d) (hx : gi w1 qd k.toNatClampNeg = x) (hl : gi w qs i0.toInt.toNat = x) (hs : gi w qs js = gi w0 qs js) (hk : 0 ≤ k.toInt) (hd : 0 ≤ d) (hk' : k'.toInt = k.toInt + 1) : k'.toInt ≤ j ∨ gi w1 qd j = gi w0 qs js := by
  have ek : k.toNatClampNeg = k.toInt.toNat := rfl
  by_cases e : k.toInt = j
  · refine Or.inr ?_
    have e1 : k.toNatClampNeg = j := by rw [ek]; omega
    have e2 : i0.toInt.toNat = js := by omega
    rw [e1] at hx; rw [e2] at hl
    rw [hx, ← hl, hs]
  · by_cases e3 : k.toInt < j
    · exact Or.inl (by omega)
    · rcases hI with h | h
      · exact absurd h (by omega)
      · exact Or.inr ((h1.gi (Or.inr (by rw [ek]; omega)) rfl).trans h)
