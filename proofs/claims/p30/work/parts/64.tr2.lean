theorem TR_twn {adC adM : Nat → Nat} {cy : Nat → ClassId} {B B' s1 s1' : Int} {q1 q2 : Nat} {w u v v' : va_W} {r r' : Int32} (h : TR (sI w) (sI v)) (hT : TW ksC adC cy B q1 s1 w) (hM : TW ksM adM cy B' q2 s1' v) (e1 : Ev (fun n => m_X11_town n 0 (sI w)) (r.toInt, sI u)) (e2 : Ev (fun n => m_X12_town n 0 (sI v)) (r'.toInt, sI v')) : r = r' ∧ TR (sI u) (sI v') ∧ ((TWN (sI u) (sI v') ∧ ∀ q k : Nat, 58 < q → q ≠ 148 → sI u q k = sI w q k) ∨ ((∀ q k : Nat, 38 ≤ q → sI u q k = sI w q k) ∧ ∀ k : Nat, sI v' 12 k = sI v 12 k)) := by
  obtain ⟨n1, e1⟩ := e1.at
  obtain ⟨n2, e2⟩ := e2.at
  obtain ⟨h1, h2⟩ := f_town h (hT.rdS (k := 2) kC_at1 (by decide) rfl).2 (fun j hj => (hT.rdU (i := j) kC_at2 (Or.inl rfl) rfl hj).1) (fun j hj => hM.rdU (i := j) kM_at1 (Or.inr (Or.inr rfl)) rfl hj) e1 e2
  exact ⟨wk_eq.mpr h1, h2⟩
