/-! what a call's models tell of the state, at two worlds -/
section
variable {w u v v' : va_W} {r r' a b c : Int32}
theorem SI_print (h : SI (sI w) (sI v)) (e1 : Ev (fun n => m_X11_print n 0 a.toInt (sI w)) (r.toInt, sI u)) (e2 : Ev (fun n => m_X12_print n 0 a.toInt (sI v)) (r'.toInt, sI v')) : r = r' ∧ SI (sI u) (sI v') := by
  obtain ⟨n1, d1⟩ := e1.at
  obtain ⟨n2, d2⟩ := e2.at
  obtain ⟨h1, h2⟩ := f_print h d1 d2
  exact ⟨wk_eq.mpr h1, h2⟩
theorem SI_misprint (h : SI (sI w) (sI v)) (e1 : Ev (fun n => m_X11_misprint n 0 a.toInt b.toInt c.toInt (sI w)) (r.toInt, sI u)) (e2 : Ev (fun n => m_X12_misprint n 0 a.toInt b.toInt c.toInt (sI v)) (r'.toInt, sI v')) : r = r' ∧ SI (sI u) (sI v') := by
  obtain ⟨n1, d1⟩ := e1.at
  obtain ⟨n2, d2⟩ := e2.at
  obtain ⟨h1, h2⟩ := f_misprint h d1 d2
  exact ⟨wk_eq.mpr h1, h2⟩
theorem SI_errand (h : SI (sI w) (sI v)) (e1 : Ev (fun n => m_X11_errand n 0 a.toInt b.toInt (sI w)) (r.toInt, sI u)) (e2 : Ev (fun n => m_X12_errand n 0 a.toInt b.toInt (sI v)) (r'.toInt, sI v')) : r = r' ∧ SI (sI u) (sI v') := by
  obtain ⟨n1, d1⟩ := e1.at
  obtain ⟨n2, d2⟩ := e2.at
  obtain ⟨h1, h2⟩ := f_errand h d1 d2
  exact ⟨wk_eq.mpr h1, h2⟩
theorem SI_sight (h : SI (sI w) (sI v)) (e1 : Ev (fun n => m_X11_sight n 0 a.toInt b.toInt (sI w)) (r.toInt, sI u)) (e2 : Ev (fun n => m_X12_sight n 0 a.toInt b.toInt (sI v)) (r'.toInt, sI v')) : r = r' ∧ SI (sI u) (sI v') := by
  obtain ⟨n1, d1⟩ := e1.at
  obtain ⟨n2, d2⟩ := e2.at
  obtain ⟨h1, h2⟩ := f_sight h d1 d2
  exact ⟨wk_eq.mpr h1, h2⟩
theorem SI_came (h : SI (sI w) (sI v)) (e1 : Ev (fun n => m_X11_came n 0 a.toInt (sI w)) (r.toInt, sI u)) (e2 : Ev (fun n => m_X12_came n 0 a.toInt (sI v)) (r'.toInt, sI v')) : r = r' ∧ SI (sI u) (sI v') := by
  obtain ⟨n1, d1⟩ := e1.at
  obtain ⟨n2, d2⟩ := e2.at
  obtain ⟨h1, h2⟩ := f_came h d1 d2
  exact ⟨wk_eq.mpr h1, h2⟩
theorem SI_image (h : SI (sI w) (sI v)) (e1 : Ev (fun n => m_X11_image n 0 a.toInt (sI w)) (r.toInt, sI u)) (e2 : Ev (fun n => m_X12_image n 0 a.toInt (sI v)) (r'.toInt, sI v')) : SI (sI u) (sI v') := by
  obtain ⟨n1, d1⟩ := e1.at
  obtain ⟨n2, d2⟩ := e2.at
  exact f_image h d1 d2
theorem SI_back (h : SI (sI w) (sI v)) (e1 : Ev (fun n => m_X11_back n 0 a.toInt (sI w)) (r.toInt, sI u)) (e2 : Ev (fun n => m_X12_back n 0 a.toInt (sI v)) (r'.toInt, sI v')) : SI (sI u) (sI v') := by
  obtain ⟨n1, d1⟩ := e1.at
  obtain ⟨n2, d2⟩ := e2.at
  exact f_back h d1 d2
theorem SI_built (h : SI (sI w) (sI v)) (e1 : Ev (fun n => m_X11_built n 0 a.toInt b.toInt c.toInt (sI w)) (r.toInt, sI u)) (e2 : Ev (fun n => m_X12_built n 0 a.toInt b.toInt c.toInt (sI v)) (r'.toInt, sI v')) : SI (sI u) (sI v') := by
  obtain ⟨n1, d1⟩ := e1.at
  obtain ⟨n2, d2⟩ := e2.at
  exact SI_builtM (SI_builtC h d1) d2
theorem SI_street (h : SI (sI w) (sI v)) (e1 : Ev (fun n => m_X11_street n 0 a.toInt b.toInt (sI w)) (r.toInt, sI u)) (e2 : Ev (fun n => m_X12_street n 0 a.toInt b.toInt (sI v)) (r'.toInt, sI v')) : r = r' := by
  obtain ⟨n1, d1⟩ := e1.at
  obtain ⟨n2, d2⟩ := e2.at
  exact wk_eq.mpr (f_street h.1 d1 d2)
theorem SI_shown (h : SI (sI w) (sI v)) (e1 : Ev (fun n => m_X11_shown n 0 a.toInt b.toInt (sI w)) (r.toInt, sI u)) (e2 : Ev (fun n => m_X12_shown n 0 a.toInt b.toInt (sI v)) (r'.toInt, sI v')) : r = r' := by
  obtain ⟨n1, d1⟩ := e1.at
  obtain ⟨n2, d2⟩ := e2.at
  exact wk_eq.mpr (f_shown h d1 d2)
theorem SI_cheap (h : SI (sI w) (sI v)) (e1 : Ev (fun n => m_X11_cheap n 0 a.toInt (sI w)) (r.toInt, sI u)) (e2 : Ev (fun n => m_X12_cheap n 0 a.toInt (sI v)) (r'.toInt, sI v')) : r = r' := by
  obtain ⟨n1, d1⟩ := e1.at
  obtain ⟨n2, d2⟩ := e2.at
  exact wk_eq.mpr (f_cheap h.1 d1 d2)
theorem SI_wrong (h : SI (sI w) (sI v)) (e1 : Ev (fun n => m_X11_wrong n 0 a.toInt (sI w)) (r.toInt, sI u)) (e2 : Ev (fun n => m_X12_wrong n 0 a.toInt (sI v)) (r'.toInt, sI v')) : r = r' := by
  obtain ⟨n1, d1⟩ := e1.at
  obtain ⟨n2, d2⟩ := e2.at
  exact wk_eq.mpr (f_wrong h.1 d1 d2)
end
/-! the ranges of the reference's rows, kept -/
theorem WI_M {E : List (Nat × Nat × Nat)} {w u : va_W} (h : WI (sI w)) (hF : FE ksM E w u) (hE : rkOK E = true) : WI (sI u) :=
  WI_k h (fun k hk => hF.sI kM_at12 (rkOK_in hE (by have o1 := h.1.1.1.2.1; omega))) (fun k => hF.sI kM_at21 (rkOK_in hE (by omega))) (fun k => hF.sI kM_at22 (rkOK_in hE (by omega)))
theorem WI_Mp {E : List (Nat × Nat × Nat)} {w u : va_W} (h : WI (sI w)) (hF : FE ksM E w u) (e80 : ∀ k : Nat, inE E 80 k = false) (e81 : ∀ k : Nat, inE E 81 k = false) (hp : ∀ j : Nat, j < 296 → gi u 12 j = gi w 12 j) : WI (sI u) :=
  WI_k h (fun k hk => congrArg Int32.toInt (hp k (by have o1 := h.1.1.1.2.1; omega))) (fun k => hF.sI kM_at21 (e80 k)) (fun k => hF.sI kM_at22 (e81 k))
section
variable {w u v v' : va_W} {a b c r r' : Int32}
theorem EW_print (h : WI (sI v)) (e2 : Ev (fun n => m_X12_print n 0 a.toInt (sI v)) (r'.toInt, sI v')) : WI (sI v') := by
  obtain ⟨n, e⟩ := e2.at
  exact WI_print h e
theorem EW_misprint (h : WI (sI v)) (e2 : Ev (fun n => m_X12_misprint n 0 a.toInt b.toInt c.toInt (sI v)) (r'.toInt, sI v')) : WI (sI v') := by
  obtain ⟨n, e⟩ := e2.at
  exact WI_misprint h e
theorem EW_errand (h : WI (sI v)) (e2 : Ev (fun n => m_X12_errand n 0 a.toInt b.toInt (sI v)) (r'.toInt, sI v')) : WI (sI v') := by
  obtain ⟨n, e⟩ := e2.at
  exact WI_errand h e
theorem EW_sight (h : WI (sI v)) (e2 : Ev (fun n => m_X12_sight n 0 a.toInt b.toInt (sI v)) (r'.toInt, sI v')) : WI (sI v') := by
  obtain ⟨n, e⟩ := e2.at
  exact WI_sight h e
theorem EW_came (h : WI (sI v)) (e2 : Ev (fun n => m_X12_came n 0 a.toInt (sI v)) (r'.toInt, sI v')) : WI (sI v') := by
  obtain ⟨n, e⟩ := e2.at
  exact WI_came h e
theorem EW_image (h : WI (sI v)) (e2 : Ev (fun n => m_X12_image n 0 a.toInt (sI v)) (r'.toInt, sI v')) : WI (sI v') := by
  obtain ⟨n, e⟩ := e2.at
  exact WI_image h e
theorem EW_back (h : WI (sI v)) (e2 : Ev (fun n => m_X12_back n 0 a.toInt (sI v)) (r'.toInt, sI v')) : WI (sI v') := by
  obtain ⟨n, e⟩ := e2.at
  exact WI_back h e
theorem EW_built (h : WI (sI v)) (e2 : Ev (fun n => m_X12_built n 0 a.toInt b.toInt c.toInt (sI v)) (r'.toInt, sI v')) : WI (sI v') := by
  obtain ⟨n, e⟩ := e2.at
  exact WI_built h e
end
/-! soonest compared, at two worlds -/
theorem FL_s {v : va_W} (hf : gi v 0 27 = 1) : ¬ sI v 0 27 = 0 := by
  rw [sI_at hf]; decide
section
variable {w u v v' : va_W} {r r' a b c : Int32}
theorem SI_soonest (h : SI (sI w) (sI v)) (hW : WI (sI v)) (hf : gi v 0 27 = 1) (e1 : Ev (fun n => m_X11_soonest n 0 a.toInt b.toInt c.toInt (sI w)) (r.toInt, sI u)) (e2 : Ev (fun n => m_X12_soonest n 0 a.toInt b.toInt c.toInt (sI v)) (r'.toInt, sI v')) : r = r' := by
  obtain ⟨n1, d1⟩ := e1.at
  obtain ⟨n2, d2⟩ := e2.at
  exact wk_eq.mpr (f_soonest h.1 hW.1.1 (FL_s hf) d1 d2).1
end
