theorem TW.rdU {ks : List Nat} {ad : Nat → Nat} {cy : Nat → ClassId} {B s1 lo hi : Int} {qr q κ i : Nat} {ws : va_W} (hT : TW ks ad cy B qr s1 ws) (hq : ks[q]? = some κ) (hk : (ak κ).1 = 0 ∨ (ak κ).1 = 2 ∨ (ak κ).1 = 3) (hu : erU κ = some (lo, hi)) (hi' : i < (ak κ).2) : lo ≤ sI ws q i ∧ sI ws q i ≤ hi := by
  obtain ⟨f, he, hf⟩ := hT.2.2.1 q κ hq hk
  have hb := (EI_u hu).mp (hf i hi')
  have e : sI ws q i = (f i).toInt := congrArg Int32.toInt (gi_a he)
  rw [e]; exact hb
theorem TW.rdS {ks : List Nat} {ad : Nat → Nat} {cy : Nat → ClassId} {B s1 lo hi : Int} {qr q κ k : Nat} {ws : va_W} (hT : TW ks ad cy B qr s1 ws) (hq : ks[q]? = some κ) (hκ : κ < 20) (hft : (ft κ)[k]? = some (0, lo, hi, 0)) : lo ≤ sI ws q k ∧ sI ws q k ≤ hi := by
  obtain ⟨x, hx, h1, h2⟩ := hT.rdi hq hκ hft
  have e : sI ws q k = x.toInt := congrArg Int32.toInt hx
  rw [e]; exact ⟨h1, h2⟩
theorem TR_C {E : List (Nat × Nat × Nat)} {w u v : va_W} (h : TR (sI w) (sI v)) (hF : FE ksC E w u) (e6 : inE E 6 2 = false) (e20 : ∀ k : Nat, inE E 20 k = false) (e11 : inE E 11 12 = false) : TR (sI u) (sI v) := by
  have a1 : sI u 1 2 = sI w 1 2 := congrArg Int32.toInt (hF.gi kC_at1 e6 rfl)
  have a2 : ∀ j : Nat, sI u 2 j = sI w 2 j := fun j => congrArg Int32.toInt (hF.gi kC_at2 (e20 j) rfl)
  have a3 : sI u 0 12 = sI w 0 12 := congrArg Int32.toInt (hF.gi kC_at0 e11 rfl)
  obtain ⟨⟨b1, b2, b3⟩, b4⟩ := h
  exact ⟨⟨a1.trans b1, by rw [a1]; exact b2, fun j hj => (a2 j).trans (b3 j (by rw [a1] at hj; exact hj))⟩, a3.trans b4⟩
theorem TR_M {E : List (Nat × Nat × Nat)} {w u v : va_W} (h : TR (sI v) (sI w)) (hF : FE ksM E w u) (e1 : inE E 12 1 = false) (e60 : ∀ k : Nat, inE E 60 k = false) (e2 : inE E 12 2 = false) : TR (sI v) (sI u) := by
  have a1 : sI u 0 1 = sI w 0 1 := congrArg Int32.toInt (hF.gi kM_at0 e1 rfl)
  have a2 : ∀ j : Nat, sI u 1 j = sI w 1 j := fun j => congrArg Int32.toInt (hF.gi kM_at1 (e60 j) rfl)
  have a3 : sI u 0 2 = sI w 0 2 := congrArg Int32.toInt (hF.gi kM_at0 e2 rfl)
  obtain ⟨⟨b1, b2, b3⟩, b4⟩ := h
  exact ⟨⟨b1.trans a1.symm, b2, fun j hj => (b3 j hj).trans (by rw [a2])⟩, b4.trans a3.symm⟩
/-- a call that empties both tapes -/
theorem TR_town {E E' : List (Nat × Nat × Nat)} {w u v v' : va_W} (h : TR (sI w) (sI v)) (hF : FE ksC E w u) (hF' : FE ksM E' v v') (e11 : inE E 11 12 = false) (e2 : inE E' 12 2 = false) (z1 : ∃ y : Int32, gi u 1 2 = y ∧ 0 ≤ y.toInt ∧ y.toInt ≤ 0) (z2 : ∃ y : Int32, gi v' 0 1 = y ∧ 0 ≤ y.toInt ∧ y.toInt ≤ 0) : TR (sI u) (sI v') := by
  obtain ⟨y1, g1, g2, g3⟩ := z1
  obtain ⟨y2, k1, k2, k3⟩ := z2
  have a1 : sI u 1 2 = 0 := (congrArg Int32.toInt g1).trans (by omega)
  have a2 : sI v' 0 1 = 0 := (congrArg Int32.toInt k1).trans (by omega)
  have a3 : sI u 0 12 = sI w 0 12 := congrArg Int32.toInt (hF.gi kC_at0 e11 rfl)
  have a4 : sI v' 0 2 = sI v 0 2 := congrArg Int32.toInt (hF'.gi kM_at0 e2 rfl)
  exact ⟨⟨a1.trans a2.symm, by rw [a1]; exact Int.le_refl 0, fun j hj => absurd hj (by rw [a1]; omega)⟩, a3.trans (h.2.trans a4.symm)⟩
theorem TR_feed {w u v v' : va_W} {r r' a b c d f : Int32} (h : TR (sI w) (sI v)) (e1 : Ev (fun n => m_X11_feed n 0 a.toInt b.toInt c.toInt d.toInt f.toInt (sI w)) (r.toInt, sI u)) (e2 : Ev (fun n => m_X12_feed n 0 a.toInt b.toInt c.toInt d.toInt f.toInt (sI v)) (r'.toInt, sI v')) : r = r' ∧ TR (sI u) (sI v') := by
  obtain ⟨n1, e1⟩ := e1.at
  obtain ⟨n2, e2⟩ := e2.at
  obtain ⟨h1, h2⟩ := f_feed h e1 e2
  exact ⟨wk_eq.mpr h1, h2⟩
theorem TR_end {w u v v' : va_W} {r r' a : Int32} (h : TR (sI w) (sI v)) (e1 : Ev (fun n => m_X11_end n 0 a.toInt (sI w)) (r.toInt, sI u)) (e2 : Ev (fun n => m_X12_end n 0 a.toInt (sI v)) (r'.toInt, sI v')) : r = r' ∧ TR (sI u) (sI v') := by
  obtain ⟨n1, e1⟩ := e1.at
  obtain ⟨n2, e2⟩ := e2.at
  obtain ⟨h1, h2⟩ := f_end h e1 e2
  exact ⟨wk_eq.mpr h1, h2⟩
theorem TR_rule {adC adM : Nat → Nat} {cy : Nat → ClassId} {B B' s1 s1' : Int} {q1 q2 : Nat} {w u v v' : va_W} {r r' : Int32} (h : TR (sI w) (sI v)) (hT : TW ksC adC cy B q1 s1 w) (hM : TW ksM adM cy B' q2 s1' v) (e1 : Ev (fun n => m_X11_rule n 0 (sI w)) (r.toInt, sI u)) (e2 : Ev (fun n => m_X12_rule n 0 (sI v)) (r'.toInt, sI v')) : r = r' ∧ TR (sI u) (sI v') := by
  obtain ⟨n1, e1⟩ := e1.at
  obtain ⟨n2, e2⟩ := e2.at
  have t2 := hM.rdS (k := 2) kM_at0 (by decide) rfl
  obtain ⟨h1, h2⟩ := f_rule h (hT.rdS (k := 2) kC_at1 (by decide) rfl).2 (fun j hj => (hT.rdU (i := j) kC_at2 (Or.inl rfl) rfl hj).1) (fun j hj => hM.rdU (i := j) kM_at1 (Or.inr (Or.inr rfl)) rfl hj) t2.1 t2.2 e1 e2
  exact ⟨wk_eq.mpr h1, h2⟩
