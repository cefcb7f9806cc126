/-! elements of the reference's row of numbers, by regions -/
theorem tk_rgI {κ i : Nat} {B s1 : Int} {x : Int32} (hu : erU κ = none) (a st n : Nat) (lo hi : Int) (hchk : (List.range n).all (fun j => decide (lo ≤ rgl.getD ((a + st * j) % 296) 0) && match rgh.getD ((a + st * j) % 296) (some (some 0)) with | some (some h) => decide (h ≤ hi) | _ => false) = true) (hj : ∃ j : Nat, j < n ∧ i = a + st * j) (h : EI κ i B s1 x) : lo ≤ x.toInt ∧ x.toInt ≤ hi := by
  obtain ⟨j, hj1, rfl⟩ := hj
  have hc := List.all_eq_true.mp hchk j (List.mem_range.mpr hj1)
  unfold EI at h; rw [hu] at h
  obtain ⟨h1, h2⟩ := h
  unfold rhi at h2
  simp only [Bool.and_eq_true, decide_eq_true_eq] at hc
  obtain ⟨c1, c2⟩ := hc
  refine ⟨Int.le_trans c1 h1, ?_⟩
  split at h2
  · rename_i e; rw [e] at c2; exact absurd c2 (by simp)
  · rename_i e; rw [e] at c2; exact absurd c2 (by simp)
  · rename_i e; rw [e] at c2; exact Int.le_trans h2 (by simpa using c2)
theorem tk_rgB {κ i : Nat} {B s1 : Int} {x : Int32} (hu : erU κ = none) (a st n : Nat) (hchk : (List.range n).all (fun j => (rgl.getD ((a + st * j) % 296) 0 == 0) && (rgh.getD ((a + st * j) % 296) (some (some 0)) == none)) = true) (hj : ∃ j : Nat, j < n ∧ i = a + st * j) : EI κ i B s1 x ↔ 0 ≤ x.toInt ∧ x.toInt ≤ B := by
  obtain ⟨j, hj1, rfl⟩ := hj
  have hc := List.all_eq_true.mp hchk j (List.mem_range.mpr hj1)
  simp only [Bool.and_eq_true, beq_iff_eq] at hc
  obtain ⟨c1, c2⟩ := hc
  unfold EI rhi; rw [hu, c1, c2]
theorem tk_rg1 {κ : Nat} {B s1 : Int} {x : Int32} (hu : erU κ = none) : EI κ 1 B s1 x ↔ 0 ≤ x.toInt ∧ x.toInt ≤ if κ = 71 then s1 else 12 := by
  unfold EI rhi; rw [hu]; rfl
theorem tk_rgS {κ i : Nat} {B s1 : Int} {x : Int32} (hu : erU κ = none) (a st n : Nat) (lo hi : Int) (hchk : (List.range n).all (fun j => decide (rgl.getD ((a + st * j) % 296) 0 ≤ lo) && match rgh.getD ((a + st * j) % 296) (some (some 0)) with | some (some h) => decide (hi ≤ h) | _ => false) = true) (hj : ∃ j : Nat, j < n ∧ i = a + st * j) (h1 : lo ≤ x.toInt) (h2 : x.toInt ≤ hi) : EI κ i B s1 x := by
  obtain ⟨j, hj1, rfl⟩ := hj
  have hc := List.all_eq_true.mp hchk j (List.mem_range.mpr hj1)
  simp only [Bool.and_eq_true, decide_eq_true_eq] at hc
  obtain ⟨c1, c2⟩ := hc
  unfold EI; rw [hu]
  refine ⟨Int.le_trans c1 h1, ?_⟩
  unfold rhi
  split at c2
  · rename_i e; rw [e]; exact Int.le_trans h2 (by simpa using c2)
  · exact absurd c2 (by simp)
theorem rg0_all : (List.range 296).all (fun j => decide (rgl.getD j 0 ≤ 0) && match rgh.getD j (some (some 0)) with | some (some h) => decide (0 ≤ h) | _ => true) = true := by decide +kernel
theorem tk_rg0 {κ i : Nat} {B s1 : Int} (hu : erU κ = none) (hB : 0 ≤ B) (hs : 0 ≤ s1) : EI κ i B s1 0 := by
  have hc := List.all_eq_true.mp rg0_all (i % 296) (List.mem_range.mpr (Nat.mod_lt _ (by decide)))
  simp only [Bool.and_eq_true, decide_eq_true_eq] at hc
  obtain ⟨c1, c2⟩ := hc
  have e0 : (0 : Int32).toInt = 0 := by decide
  unfold EI; rw [hu, e0]
  refine ⟨c1, ?_⟩
  unfold rhi
  split
  · exact hB
  · split
    · exact hs
    · decide
  · rename_i e; rw [e] at c2; simpa using c2
/-- the same region in another row -/
theorem tk_rgC {κ κ' i i' : Nat} {B : Int} {x : Int32} (hu : erU κ = none) (hu' : erU κ' = none) (hi : i % 296 = i' % 296) (h : EI κ i B 12 x) : EI κ' i' B 12 x := by
  unfold EI at h ⊢
  rw [hu] at h; rw [hu']
  have e : ∀ k : Nat, (if k = 71 then (12 : Int) else 12) = 12 := fun k => by split <;> rfl
  simp only [e] at h ⊢
  rw [hi] at h; exact h
theorem TW.s1 {ks : List Nat} {ad : Nat → Nat} {cy : Nat → ClassId} {B s1 s2 : Int} {qr : Nat} {ws : va_W} (hT : TW ks ad cy B qr s1 ws) (h : s1 ≤ s2) : TW ks ad cy B qr s2 ws := by
  obtain ⟨h0, h1, h2, h3, h4⟩ := hT
  refine ⟨h0, h1, fun q κ hq hκ => ?_, h3, h4⟩
  obtain ⟨f, g1, g2⟩ := h2 q κ hq hκ
  refine ⟨f, g1, fun i hi => ?_⟩
  have g3 := g2 i hi
  unfold EI at g3 ⊢
  split at g3
  · exact g3
  · refine ⟨g3.1, Int.le_trans g3.2 ?_⟩
    unfold rhi
    split
    · exact Int.le_refl _
    · split
      · exact h
      · exact Int.le_refl _
    · exact Int.le_refl _
theorem only71 : (List.range 23).all (fun q => !(ksM[q]? == some 71) || q == 12) = true := by decide +kernel
theorem rgh_only1 : (List.range 296).all (fun j => j == 1 || !(rgh.getD j (some (some 0)) == some none)) = true := by decide +kernel
theorem TW.s1d {ad : Nat → Nat} {cy : Nat → ClassId} {B : Int} {qr : Nat} {ws : va_W} (hT : TW ksM ad cy B qr 13 ws) (hv : (gi ws 12 1).toInt ≤ 12) : TW ksM ad cy B qr 12 ws := by
  obtain ⟨h0, h1, h2, h3, h4⟩ := hT
  refine ⟨h0, h1, fun q κ hq hκ => ?_, h3, h4⟩
  obtain ⟨f, g1, g2⟩ := h2 q κ hq hκ
  refine ⟨f, g1, fun i hi => ?_⟩
  have g3 := g2 i hi
  unfold EI at g3 ⊢
  split at g3
  · exact g3
  · rename_i hu
    refine ⟨g3.1, ?_⟩
    have g4 := g3.2
    unfold rhi at g4 ⊢
    split
    · rename_i e; rw [e] at g4; exact g4
    · rename_i e
      rw [e] at g4
      split
      · rename_i e2
        subst e2
        have hj : i % 296 = 1 := by
          have hc := List.all_eq_true.mp rgh_only1 (i % 296) (List.mem_range.mpr (Nat.mod_lt _ (by decide)))
          rcases (Bool.or_eq_true _ _).mp hc with h | h
          · simpa using h
          · rw [e] at h; exact absurd h (by decide)
        have hi2 : i < 296 := hi
        have hi3 : i = 1 := by omega
        subst hi3
        have hl : q < 23 := tk_lt hq
        have hq2 : q = 12 := by
          have hc := List.all_eq_true.mp only71 q (List.mem_range.mpr hl)
          simpa [hq] using hc
        subst hq2
        rw [gi_a g1] at hv
        exact hv
      · rename_i e2
        rw [if_neg e2] at g4
        exact g4
    · rename_i e; rw [e] at g4; exact g4
theorem TW.rda {ks : List Nat} {ad : Nat → Nat} {cy : Nat → ClassId} {B s1 lo hi : Int} {qr q κ i n : Nat} {ws : va_W} (hT : TW ks ad cy B qr s1 ws) (hq : ks[q]? = some κ) (hak : ak κ = (0, n)) (hu : erU κ = some (lo, hi)) (hi' : i < n) : ∃ x : Int32, gi ws q i = x ∧ lo ≤ x.toInt ∧ x.toInt ≤ hi := by
  obtain ⟨f, he, hf⟩ := hT.2.2.1 q κ hq (by rw [hak]; exact Or.inl rfl)
  rw [hak] at he hf
  have hb := (EI_u hu).mp (hf i hi')
  exact ⟨f i, gi_a he, hb.1, hb.2⟩
theorem tk_rgJ {κ i : Nat} {B : Int} {x : Int32} (hu : erU κ = none) (a st n : Nat) (lo hi : Int) (hchk : (List.range n).all (fun j => decide (lo ≤ rgl.getD ((a + st * j) % 296) 0) && match rgh.getD ((a + st * j) % 296) (some (some 0)) with | some (some h) => decide (h ≤ hi) | some none => decide (12 ≤ hi) | none => false) = true) (hj : ∃ j : Nat, j < n ∧ i = a + st * j) (h : EI κ i B 12 x) : lo ≤ x.toInt ∧ x.toInt ≤ hi := by
  obtain ⟨j, hj1, rfl⟩ := hj
  have hc := List.all_eq_true.mp hchk j (List.mem_range.mpr hj1)
  unfold EI at h; rw [hu] at h
  obtain ⟨h1, h2⟩ := h
  unfold rhi at h2
  simp only [Bool.and_eq_true, decide_eq_true_eq] at hc
  obtain ⟨c1, c2⟩ := hc
  refine ⟨Int.le_trans c1 h1, ?_⟩
  split at h2
  · rename_i e; rw [e] at c2; exact absurd c2 (by simp)
  · rename_i e; rw [e] at c2
    have h3 : x.toInt ≤ 12 := by split at h2 <;> exact h2
    exact Int.le_trans h3 (by simpa using c2)
  · rename_i e; rw [e] at c2; exact Int.le_trans h2 (by simpa using c2)
theorem wk_remRl {x y : Int64} (hx : 0 ≤ x.toInt) (hy : 0 < y.toInt) : 0 ≤ (x - x / y * y).toInt ∧ (x - x / y * y).toInt < y.toInt := by
  rw [wk_reml hx hy]; exact ⟨Int.emod_nonneg _ (by omega), Int.emod_lt_of_pos _ hy⟩
/-! sums of rows, for measures -/
def sumG (q : Nat) : Nat → va_W → Int
  | 0, _ => 0
  | n + 1, w => sumG q n w + (gi w q n).toInt
theorem sumG_eq {q : Nat} {w w' : va_W} : ∀ (n : Nat), (∀ j : Nat, j < n → gi w' q j = gi w q j) → sumG q n w' = sumG q n w
  | 0, _ => rfl
  | n + 1, h => by
    show sumG q n w' + (gi w' q n).toInt = sumG q n w + (gi w q n).toInt
    rw [sumG_eq n (fun j hj => h j (by omega)), h n (by omega)]
theorem sumG_ne {ws ws1 : va_W} {q0 k q : Nat} (n : Nat) (h : F1 ws ws1 q0 k) (hn : q ≠ q0) : sumG q n ws1 = sumG q n ws :=
  sumG_eq n (fun _ _ => h.gi (Or.inl hn) rfl)
theorem sumG_FE {ks : List Nat} {E : List (Nat × Nat × Nat)} {ws u : va_W} {q κ : Nat} (n : Nat) (h : FE ks E ws u) (hq : ks[q]? = some κ) (hE : ∀ j : Nat, inE E κ j = false) : sumG q n u = sumG q n ws :=
  sumG_eq n (fun j _ => h.gi hq (hE j) rfl)
theorem sumG_up {ws ws1 : va_W} {q i : Nat} (h : F1 ws ws1 q i) : ∀ (n : Nat), i < n → sumG q n ws1 = sumG q n ws - (gi ws q i).toInt + (gi ws1 q i).toInt
  | 0, hi => absurd hi (by omega)
  | n + 1, hi => by
    show sumG q n ws1 + (gi ws1 q n).toInt = sumG q n ws + (gi ws q n).toInt - (gi ws q i).toInt + (gi ws1 q i).toInt
    by_cases e : i = n
    · subst e
      rw [sumG_eq i (fun j hj => h.gi (Or.inr (by omega)) rfl)]; omega
    · rw [sumG_up h n (by omega), show gi ws1 q n = gi ws q n from h.gi (Or.inr (fun x => e x.symm)) rfl]; omega
theorem sumG_bd {q : Nat} {w : va_W} {lo hi : Int} : ∀ (n : Nat), (∀ j : Nat, j < n → lo ≤ (gi w q j).toInt ∧ (gi w q j).toInt ≤ hi) → n * lo ≤ sumG q n w ∧ sumG q n w ≤ n * hi
  | 0, _ => by simp [sumG]
  | n + 1, h => by
    obtain ⟨h1, h2⟩ := sumG_bd n (fun j hj => h j (by omega))
    obtain ⟨h3, h4⟩ := h n (by omega)
    have e1 : ((n + 1 : Nat) : Int) * lo = n * lo + lo := by rw [Int.natCast_add, Int.add_mul]; simp
    have e2 : ((n + 1 : Nat) : Int) * hi = n * hi + hi := by rw [Int.natCast_add, Int.add_mul]; simp
    show ((n + 1 : Nat) : Int) * lo ≤ sumG q n w + (gi w q n).toInt ∧ sumG q n w + (gi w q n).toInt ≤ ((n + 1 : Nat) : Int) * hi
    omega
theorem TW.sum {ks : List Nat} {ad : Nat → Nat} {cy : Nat → ClassId} {B s1 lo hi : Int} {qr q κ n ty : Nat} {ws : va_W} (hT : TW ks ad cy B qr s1 ws) (hq : ks[q]? = some κ) (hak : ak κ = (ty, n)) (hty : ty = 0 ∨ ty = 2 ∨ ty = 3) (hu : erU κ = some (lo, hi)) : n * lo ≤ sumG q n ws ∧ sumG q n ws ≤ n * hi := by
  obtain ⟨f, he, hf⟩ := hT.2.2.1 q κ hq (by rw [hak]; exact hty)
  rw [hak] at he hf
  exact sumG_bd n (fun j hj => by rw [gi_a he]; exact (EI_u hu).mp (hf j hj))
theorem copy_at {w0 w w1 : va_W} {qs qd j jd : Nat} {i k k' x : Int32} {d : Int} (hjd : (jd : Int) = j + d) (hI : k.toInt ≤ j ∨ gi w qd jd = gi w0 qs j) (h1 : F1 w w1 qd i.toNatClampNeg) (hi : i.toInt = k.toInt + d) (hx : gi w1 qd i.toNatClampNeg = x) (hl : gi w qs k.toInt.toNat = x) (hs : gi w qs j = gi w0 qs j) (hk : 0 ≤ k.toInt) (hd : 0 ≤ d) (hk' : k'.toInt = k.toInt + 1) : k'.toInt ≤ j ∨ gi w1 qd jd = gi w0 qs j := by
  have ei : i.toNatClampNeg = i.toInt.toNat := rfl
  by_cases e : k.toInt = j
  · refine Or.inr ?_
    have e1 : i.toNatClampNeg = jd := by rw [ei]; omega
    have e2 : k.toInt.toNat = j := by omega
    rw [e1] at hx; rw [e2] at hl
    rw [hx, ← hl, hs]
  · by_cases e3 : k.toInt < j
    · exact Or.inl (by omega)
    · rcases hI with h | h
      · exact absurd h (by omega)
      · exact Or.inr ((h1.gi (Or.inr (by rw [ei]; omega)) rfl).trans h)
