
/-! what stays of the seed's number: rows for it -/
theorem TW.rdR {ks : List Nat} {ad : Nat → Nat} {cy : Nat → ClassId} {B s1 lo hi : Int} {qr q κ i n : Nat} {ws : va_W} (hT : TW ks ad cy B qr s1 ws) (hq : ks[q]? = some κ) (hak : ak κ = (0, n)) (hu : erU κ = none) (hi' : i < n) (hlo : rgl.getD (i % 296) 0 = lo) (hhi : rgh.getD (i % 296) (some (some 0)) = some (some hi)) : ∃ x : Int32, gi ws q i = x ∧ lo ≤ x.toInt ∧ x.toInt ≤ hi := by
  obtain ⟨f, he, hf⟩ := hT.2.2.1 q κ hq (by rw [hak]; exact Or.inl rfl)
  rw [hak] at he hf
  have hb := hf i hi'
  unfold EI rhi at hb
  rw [hu, hlo, hhi] at hb
  exact ⟨f i, gi_a he, hb.1, hb.2⟩
theorem TW.rdz {ks : List Nat} {ad : Nat → Nat} {cy : Nat → ClassId} {B s1 lo hi : Int} {qr q κ i n : Nat} {ws : va_W} (hT : TW ks ad cy B qr s1 ws) (hq : ks[q]? = some κ) (hak : ak κ = (2, n)) (hu : erU κ = some (lo, hi)) (hi' : i < n) : ∃ x : Int32, gi ws q i = x ∧ lo ≤ x.toInt ∧ x.toInt ≤ hi := by
  obtain ⟨f, he, hf⟩ := hT.2.2.1 q κ hq (by rw [hak]; exact Or.inr (Or.inl rfl))
  rw [hak] at he hf
  have hb := (EI_u hu).mp (hf i hi')
  exact ⟨f i, gi_a he, hb.1, hb.2⟩
theorem copy_at2 {w0 w w1 : va_W} {qs qd j js : Nat} {i0 k k' x : Int32} {d : Int} (hjs : (js : Int) = j + d) (hI : k.toInt ≤ j ∨ gi w qd j = gi w0 qs js) (h1 : F1 w w1 qd k.toNatClampNeg) (hi : i0.toInt = k.toInt + d) (hx : gi w1 qd k.toNatClampNeg = x) (hl : gi w qs i0.toInt.toNat = x) (hs : gi w qs js = gi w0 qs js) (hk : 0 ≤ k.toInt) (hd : 0 ≤ d) (hk' : k'.toInt = k.toInt + 1) : k'.toInt ≤ j ∨ gi w1 qd j = gi w0 qs js := by
  have ek : k.toNatClampNeg = k.toInt.toNat := rfl
  by_cases e : k.toInt = j
  · refine Or.inr ?_
    have e1 : k.toNatClampNeg = j := by rw [ek]; omega
    have e2 : i0.toInt.toNat = js := by omega
    rw [e1] at hx; rw [e2] at hl
    rw [hx, ← hl, hs]
  · by_cases e3 : k.toInt < j
    · exact Or.inl (by omega)
    · rcases hI with h | h
      · exact absurd h (by omega)
      · exact Or.inr ((h1.gi (Or.inr (by rw [ek]; omega)) rfl).trans h)
