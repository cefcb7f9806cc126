/-! what a call's models tell of the state, at two worlds -/
section
variable {w u v v' : va_W} {r r' a b c : Int32}
theorem SI_print (h : SI (sI w) (sI v)) (e1 : Ev (fun n => m_X11_print n 0 a.toInt (sI w)) (r.toInt, sI u)) (e2 : Ev (fun n => m_X12_print n 0 a.toInt (sI v)) (r'.toInt, sI v')) : r = r' ∧ SI (sI u) (sI v') := by
  obtain ⟨n1, d1⟩ := e1.at
  obtain ⟨n2, d2⟩ := e2.at
  obtain ⟨h1, h2⟩ := f_print h d1 d2
  exact ⟨wk_eq.mpr h1, h2⟩
theorem SI_misprint (h : SI (sI w) (sI v)) (e1 : Ev (fun n => m_X11_misprint n 0 a.toInt b.toInt c.toInt (sI w)) (r.toInt, sI u)) (e2 : Ev (fun n => m_X12_misprint n 0 a.toInt b.toInt c.toInt (sI v)) (r'.toInt, sI v')) : r = r' ∧ SI (sI u) (sI v') := by
  obtain ⟨n1, d1⟩ := e1.at
  obtain ⟨n2, d2⟩ := e2.at
  obtain ⟨h1, h2⟩ := f_misprint h d1 d2
  exact ⟨wk_eq.mpr h1, h2⟩
theorem SI_errand (h : SI (sI w) (sI v)) (e1 : Ev (fun n => m_X11_errand n 0 a.toInt b.toInt (sI w)) (r.toInt, sI u)) (e2 : Ev (fun n => m_X12_errand n 0 a.toInt b.toInt (sI v)) (r'.toInt, sI v')) : r = r' ∧ SI (sI u) (sI v') := by
  obtain ⟨n1, d1⟩ := e1.at
  obtain ⟨n2, d2⟩ := e2.at
  obtain ⟨h1, h2⟩ := f_errand h d1 d2
  exact ⟨wk_eq.mpr h1, h2⟩
theorem SI_sight (h : SI (sI w) (sI v)) (e1 : Ev (fun n => m_X11_sight n 0 a.toInt b.toInt (sI w)) (r.toInt, sI u)) (e2 : Ev (fun n => m_X12_sight n 0 a.toInt b.toInt (sI v)) (r'.toInt, sI v')) : r = r' ∧ SI (sI u) (sI v') := by
  obtain ⟨n1, d1⟩ := e1.at
  obtain ⟨n2, d2⟩ := e2.at
  obtain ⟨h1, h2⟩ := f_sight h d1 d2
  exact ⟨wk_eq.mpr h1, h2⟩
theorem SI_came (h : SI (sI w) (sI v)) (e1 : Ev (fun n => m_X11_came n 0 a.toInt (sI w)) (r.toInt, sI u)) (e2 : Ev (fun n => m_X12_came n 0 a.toInt (sI v)) (r'.toInt, sI v')) : r = r' ∧ SI (sI u) (sI v') := by
  obtain ⟨n1, d1⟩ := e1.at
  obtain ⟨n2, d2⟩ := e2.at
  obtain ⟨h1, h2⟩ := f_came h d1 d2
  exact ⟨wk_eq.mpr h1, h2⟩
theorem SI_image (h : SI (sI w) (sI v)) (e1 : Ev (fun n => m_X11_image n 0 a.toInt (sI w)) (r.toInt, sI u)) (e2 : Ev (fun n => m_X12_image n 0 a.toInt (sI v)) (r'.toInt, sI v')) : SI (sI u) (sI v') := by
  obtain ⟨n1, d1⟩ := e1.at
  obtain ⟨n2, d2⟩ := e2.at
  exact f_image h d1 d2
theorem SI_back (h : SI (sI w) (sI v)) (e1 : Ev (fun n => m_X11_back n 0 a.toInt (sI w)) (r.toInt, sI u)) (e2 : Ev (fun n => m_X12_back n 0 a.toInt (sI v)) (r'.toInt, sI v')) : SI (sI u) (sI v') := by
  obtain ⟨n1, d1⟩ := e1.at
  obtain ⟨n2, d2⟩ := e2.at
  exact f_back h d1 d2
theorem SI_built (h : SI (sI w) (sI v)) (e1 : Ev (fun n => m_X11_built n 0 a.toInt b.toInt c.toInt (sI w)) (r.toInt, sI u)) (e2 : Ev (fun n => m_X12_built n 0 a.toInt b.toInt c.toInt (sI v)) (r'.toInt, sI v')) : SI (sI u) (sI v') := by
  obtain ⟨n1, d1⟩ := e1.at
  obtain ⟨n2, d2⟩ := e2.at
  exact SI_builtM (SI_builtC h d1) d2
theorem SI_street (h : SI (sI w) (sI v)) (e1 : Ev (fun n => m_X11_street n 0 a.toInt b.toInt (sI w)) (r.toInt, sI u)) (e2 : Ev (fun n => m_X12_street n 0 a.toInt b.toInt (sI v)) (r'.toInt, sI v')) : r = r' := by
  obtain ⟨n1, d1⟩ := e1.at
  obtain ⟨n2, d2⟩ := e2.at
  exact wk_eq.mpr (f_street h.1 d1 d2)
theorem SI_shown (h : SI (sI w) (sI v)) (e1 : Ev (fun n => m_X11_shown n 0 a.toInt b.toInt (sI w)) (r.toInt, sI u)) (e2 : Ev (fun n => m_X12_shown n 0 a.toInt b.toInt (sI v)) (r'.toInt, sI v')) : r = r' := by
  obtain ⟨n1, d1⟩ := e1.at
  obtain ⟨n2, d2⟩ := e2.at
  exact wk_eq.mpr (f_shown h d1 d2)
theorem SI_cheap (h : SI (sI w) (sI v)) (e1 : Ev (fun n => m_X11_cheap n 0 a.toInt (sI w)) (r.toInt, sI u)) (e2 : Ev (fun n => m_X12_cheap n 0 a.toInt (sI v)) (r'.toInt, sI v')) : r = r' := by
  obtain ⟨n1, d1⟩ := e1.at
  obtain ⟨n2, d2⟩ := e2.at
  exact wk_eq.mpr (f_cheap h.1 d1 d2)
theorem SI_wrong (h : SI (sI w) (sI v)) (e1 : Ev (fun n => m_X11_wrong n 0 a.toInt (sI w)) (r.toInt, sI u)) (e2 : Ev (fun n => m_X12_wrong n 0 a.toInt (sI v)) (r'.toInt, sI v')) : r = r' := by
  obtain ⟨n1, d1⟩ := e1.at
  obtain ⟨n2, d2⟩ := e2.at
  exact wk_eq.mpr (f_wrong h.1 d1 d2)
end
/-! the ranges of the reference's rows, kept -/
theorem WI_M {E : List (Nat × Nat × Nat)} {w u : va_W} (h : WI (sI w)) (hF : FE ksM E w u) (hE : rkOK E = true) : WI (sI u) :=
  WI_k h (fun k hk => hF.sI kM_at12 (rkOK_in hE (by have o1 := h.1.1.1.2.1; omega))) (fun k => hF.sI kM_at21 (rkOK_in hE (by omega))) (fun k => hF.sI kM_at22 (rkOK_in hE (by omega)))
theorem WI_Mp {E : List (Nat × Nat × Nat)} {w u : va_W} (h : WI (sI w)) (hF : FE ksM E w u) (e80 : ∀ k : Nat, inE E 80 k = false) (e81 : ∀ k : Nat, inE E 81 k = false) (hp : ∀ j : Nat, j < 296 → gi u 12 j = gi w 12 j) : WI (sI u) :=
  WI_k h (fun k hk => congrArg Int32.toInt (hp k (by have o1 := h.1.1.1.2.1; omega))) (fun k => hF.sI kM_at21 (e80 k)) (fun k => hF.sI kM_at22 (e81 k))
section
variable {w u v v' : va_W} {a b c r r' : Int32}
theorem EW_print (h : WI (sI v)) (e2 : Ev (fun n => m_X12_print n 0 a.toInt (sI v)) (r'.toInt, sI v')) : WI (sI v') := by
  obtain ⟨n, e⟩ := e2.at
  exact WI_print h e
theorem EW_misprint (h : WI (sI v)) (e2 : Ev (fun n => m_X12_misprint n 0 a.toInt b.toInt c.toInt (sI v)) (r'.toInt, sI v')) : WI (sI v') := by
  obtain ⟨n, e⟩ := e2.at
  exact WI_misprint h e
theorem EW_errand (h : WI (sI v)) (e2 : Ev (fun n => m_X12_errand n 0 a.toInt b.toInt (sI v)) (r'.toInt, sI v')) : WI (sI v') := by
  obtain ⟨n, e⟩ := e2.at
  exact WI_errand h e
theorem EW_sight (h : WI (sI v)) (e2 : Ev (fun n => m_X12_sight n 0 a.toInt b.toInt (sI v)) (r'.toInt, sI v')) : WI (sI v') := by
  obtain ⟨n, e⟩ := e2.at
  exact WI_sight h e
theorem EW_came (h : WI (sI v)) (e2 : Ev (fun n => m_X12_came n 0 a.toInt (sI v)) (r'.toInt, sI v')) : WI (sI v') := by
  obtain ⟨n, e⟩ := e2.at
  exact WI_came h e
theorem EW_image (h : WI (sI v)) (e2 : Ev (fun n => m_X12_image n 0 a.toInt (sI v)) (r'.toInt, sI v')) : WI (sI v') := by
  obtain ⟨n, e⟩ := e2.at
  exact WI_image h e
theorem EW_back (h : WI (sI v)) (e2 : Ev (fun n => m_X12_back n 0 a.toInt (sI v)) (r'.toInt, sI v')) : WI (sI v') := by
  obtain ⟨n, e⟩ := e2.at
  exact WI_back h e
theorem EW_built (h : WI (sI v)) (e2 : Ev (fun n => m_X12_built n 0 a.toInt b.toInt c.toInt (sI v)) (r'.toInt, sI v')) : WI (sI v') := by
  obtain ⟨n, e⟩ := e2.at
  exact WI_built h e
end
/-! the atlas, at worlds -/
def aiOK (E : List (Nat × Nat × Nat)) : Bool := E.all (fun e => Nat.ble e.1 6 || (Nat.ble 8 e.1 && Nat.ble e.1 23) || (Nat.ble 27 e.1 && Nat.ble e.1 31) || (Nat.ble 33 e.1 && Nat.ble e.1 41) || Nat.ble 45 e.1)
theorem aiOK_in {E : List (Nat × Nat × Nat)} {κ k : Nat} (h : aiOK E = true) (hκ : κ = 7 ∨ (24 ≤ κ ∧ κ ≤ 26) ∨ κ = 32 ∨ (42 ≤ κ ∧ κ ≤ 44)) : inE E κ k = false := by
  cases hb : inE E κ k with
  | false => rfl
  | true =>
    exfalso
    simp only [inE, List.any_eq_true, Bool.and_eq_true, beq_iff_eq, Nat.ble_eq] at hb
    obtain ⟨e, he, ⟨h3, h4⟩, h5⟩ := hb
    simp only [aiOK, List.all_eq_true] at h
    have h6 := h e he
    simp only [Bool.or_eq_true, Bool.and_eq_true, Nat.ble_eq] at h6
    omega
def raOK (E : List (Nat × Nat × Nat)) : Bool := E.all (fun e => Nat.ble 42 e.1)
theorem raOK_in {E : List (Nat × Nat × Nat)} {κ k : Nat} (h : raOK E = true) (hκ : κ < 42) : inE E κ k = false := by
  cases hb : inE E κ k with
  | false => rfl
  | true =>
    exfalso
    simp only [inE, List.any_eq_true, Bool.and_eq_true, beq_iff_eq, Nat.ble_eq] at hb
    obtain ⟨e, he, ⟨h3, h4⟩, h5⟩ := hb
    simp only [raOK, List.all_eq_true] at h
    have h6 := h e he
    simp only [Nat.ble_eq] at h6
    omega
section
variable {E E' : List (Nat × Nat × Nat)} {w w0 u v v' : va_W} {a b c d r r' : Int32} {x : Int}
theorem AI_FE (h : AIc (sI w)) (hF : FE ksC E w u) (hE : aiOK E = true) : AIc (sI u) := AIc_fr h (fun q k hq => by
  rcases hq with rfl | rfl | rfl | rfl | rfl | rfl | rfl | rfl
  · exact hF.sI kC_at39 (aiOK_in hE (by omega))
  · exact hF.sI kC_at40 (aiOK_in hE (by omega))
  · exact hF.sI kC_at41 (aiOK_in hE (by omega))
  · exact hF.sI kC_at42 (aiOK_in hE (by omega))
  · exact hF.sI kC_at48 (aiOK_in hE (by omega))
  · exact hF.sI kC_at146 (aiOK_in hE (by omega))
  · exact hF.sI kC_at147 (aiOK_in hE (by omega))
  · exact hF.sI kC_at148 (aiOK_in hE (by omega)))
theorem ra_fr (hF : FE ksC E w u) (hE : raOK E = true) : ∀ q k : Nat, (q = 39 ∨ q = 40 ∨ q = 41) → sI u q k = sI w q k := fun q k hq => by
  rcases hq with rfl | rfl | rfl
  · exact hF.sI kC_at39 (raOK_in hE (by omega))
  · exact hF.sI kC_at40 (raOK_in hE (by omega))
  · exact hF.sI kC_at41 (raOK_in hE (by omega))
/-- a frame that keeps the atlas right -/
def FA (ks : List Nat) (E : List (Nat × Nat × Nat)) (w0 u : va_W) : Prop := FE ks E w0 u ∧ (AIc (sI w0) → AIc (sI u))
theorem FA.rf : FA ksC E w w := ⟨FE.rf, fun h => h⟩
theorem FA.tr (hF : FA ksC E w0 w) (h : FE ksC E' w u) (hs : (subE E' E && aiOK E') = true) : FA ksC E w0 u := by
  rw [Bool.and_eq_true] at hs
  exact ⟨hF.1.tr h hs.1, fun g => AI_FE (hF.2 g) h hs.2⟩
theorem FA.ra (hF : FA ksC E w0 w) (h : FE ksC E' w u) (e : Ev (fun n => m_X0_refreshAll n 145 (sI w)) (x, sI u)) (hs : (subE E' E && raOK E') = true) : FA ksC E w0 u := by
  rw [Bool.and_eq_true] at hs
  obtain ⟨n, e⟩ := e.at
  exact ⟨hF.1.tr h hs.1, fun g => A_all (hF.2 g) (ra_fr h hs.2) e⟩
theorem AW_print (h : SI (sI w) (sI v)) (hA : AIc (sI w)) (e1 : Ev (fun n => m_X11_print n 0 a.toInt (sI w)) (r.toInt, sI u)) : AIc (sI u) := by
  obtain ⟨n, e⟩ := e1.at
  exact A_print h hA e
theorem AW_misprint (h : SI (sI w) (sI v)) (hA : AIc (sI w)) (e1 : Ev (fun n => m_X11_misprint n 0 a.toInt b.toInt c.toInt (sI w)) (r.toInt, sI u)) : AIc (sI u) := by
  obtain ⟨n, e⟩ := e1.at
  exact A_misprint h hA e
theorem AW_image (h : SI (sI w) (sI v)) (hA : AIc (sI w)) (e1 : Ev (fun n => m_X11_image n 0 a.toInt (sI w)) (r.toInt, sI u)) : AIc (sI u) := by
  obtain ⟨n, e⟩ := e1.at
  exact A_image hA e
theorem AW_back (h : SI (sI w) (sI v)) (hA : AIc (sI w)) (e1 : Ev (fun n => m_X11_back n 0 a.toInt (sI w)) (r.toInt, sI u)) : AIc (sI u) := by
  obtain ⟨n, e⟩ := e1.at
  exact A_back hA e
theorem AW_built (h : SI (sI w) (sI v)) (hA : AIc (sI w)) (e1 : Ev (fun n => m_X11_built n 0 a.toInt b.toInt c.toInt (sI w)) (r.toInt, sI u)) : AIc (sI u) := by
  obtain ⟨n, e⟩ := e1.at
  exact A_built h hA e
theorem AW_by (h : SI (sI w) (sI v)) (hA : AIc (sI w)) (hF : FE ksC E w u) (hE : raOK E = true) (e1 : Ev (fun n => m_X11_by n 0 a.toInt b.toInt c.toInt d.toInt (sI w)) (r.toInt, sI u)) : AIc (sI u) := by
  obtain ⟨n, e⟩ := e1.at
  exact A_by h hA (ra_fr hF hE) e
theorem SI_by (h : SI (sI w) (sI v)) (hW : WI (sI v)) (hA : AIc (sI w)) (e1 : Ev (fun n => m_X11_by n 0 a.toInt b.toInt c.toInt d.toInt (sI w)) (r.toInt, sI u)) (e2 : Ev (fun n => m_X12_by n 0 a.toInt b.toInt c.toInt d.toInt (sI v)) (r'.toInt, sI v')) : r = r' := by
  obtain ⟨n1, d1⟩ := e1.at
  obtain ⟨n2, d2⟩ := e2.at
  exact wk_eq.mpr (f_by h.1 hW.1.1 (hA _ _ _ _ _ (TKX_S h.1 hW.1.1)) d1 d2)
end
theorem AW_town {adC : Nat → Nat} {cy : Nat → ClassId} {B s1 : Int} {q1 : Nat} {w u v : va_W} {r : Int32} (h : TR (sI w) (sI v)) (hT : TW ksC adC cy B q1 s1 w) (hA : AIc (sI w)) (e1 : Ev (fun n => m_X11_town n 0 (sI w)) (r.toInt, sI u)) : AIc (sI u) := by
  obtain ⟨n1, e1⟩ := e1.at
  exact A_townT h (hT.rdS (k := 2) kC_at1 (by decide) rfl).2 (fun j hj => (hT.rdU (i := j) kC_at2 (Or.inl rfl) rfl hj).1) hA e1
