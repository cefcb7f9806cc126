/-! what a call's models tell of the state, at two worlds -/
section
variable {w u v v' : va_W} {r r' a b c : Int32}
theorem SI_print (h : SI (sI w) (sI v)) (e1 : Ev (fun n => m_X11_print n 0 a.toInt (sI w)) (r.toInt, sI u)) (e2 : Ev (fun n => m_X12_print n 0 a.toInt (sI v)) (r'.toInt, sI v')) : r = r' ∧ SI (sI u) (sI v') := by
  obtain ⟨n1, d1⟩ := e1.at
  obtain ⟨n2, d2⟩ := e2.at
  obtain ⟨h1, h2⟩ := f_print h d1 d2
  exact ⟨wk_eq.mpr h1, h2⟩
theorem SI_misprint (h : SI (sI w) (sI v)) (e1 : Ev (fun n => m_X11_misprint n 0 a.toInt b.toInt c.toInt (sI w)) (r.toInt, sI u)) (e2 : Ev (fun n => m_X12_misprint n 0 a.toInt b.toInt c.toInt (sI v)) (r'.toInt, sI v')) : r = r' ∧ SI (sI u) (sI v') := by
  obtain ⟨n1, d1⟩ := e1.at
  obtain ⟨n2, d2⟩ := e2.at
  obtain ⟨h1, h2⟩ := f_misprint h d1 d2
  exact ⟨wk_eq.mpr h1, h2⟩
theorem SI_errand (h : SI (sI w) (sI v)) (e1 : Ev (fun n => m_X11_errand n 0 a.toInt b.toInt (sI w)) (r.toInt, sI u)) (e2 : Ev (fun n => m_X12_errand n 0 a.toInt b.toInt (sI v)) (r'.toInt, sI v')) : r = r' ∧ SI (sI u) (sI v') := by
  obtain ⟨n1, d1⟩ := e1.at
  obtain ⟨n2, d2⟩ := e2.at
  obtain ⟨h1, h2⟩ := f_errand h d1 d2
  exact ⟨wk_eq.mpr h1, h2⟩
theorem SI_sight (h : SI (sI w) (sI v)) (e1 : Ev (fun n => m_X11_sight n 0 a.toInt b.toInt (sI w)) (r.toInt, sI u)) (e2 : Ev (fun n => m_X12_sight n 0 a.toInt b.toInt (sI v)) (r'.toInt, sI v')) : r = r' ∧ SI (sI u) (sI v') := by
  obtain ⟨n1, d1⟩ := e1.at
  obtain ⟨n2, d2⟩ := e2.at
  obtain ⟨h1, h2⟩ := f_sight h d1 d2
  exact ⟨wk_eq.mpr h1, h2⟩
theorem SI_came (h : SI (sI w) (sI v)) (e1 : Ev (fun n => m_X11_came n 0 a.toInt (sI w)) (r.toInt, sI u)) (e2 : Ev (fun n => m_X12_came n 0 a.toInt (sI v)) (r'.toInt, sI v')) : r = r' ∧ SI (sI u) (sI v') := by
  obtain ⟨n1, d1⟩ := e1.at
  obtain ⟨n2, d2⟩ := e2.at
  obtain ⟨h1, h2⟩ := f_came h d1 d2
  exact ⟨wk_eq.mpr h1, h2⟩
theorem SI_image (h : SI (sI w) (sI v)) (e1 : Ev (fun n => m_X11_image n 0 a.toInt (sI w)) (r.toInt, sI u)) (e2 : Ev (fun n => m_X12_image n 0 a.toInt (sI v)) (r'.toInt, sI v')) : SI (sI u) (sI v') := by
  obtain ⟨n1, d1⟩ := e1.at
  obtain ⟨n2, d2⟩ := e2.at
  exact f_image h d1 d2
theorem SI_back (h : SI (sI w) (sI v)) (e1 : Ev (fun n => m_X11_back n 0 a.toInt (sI w)) (r.toInt, sI u)) (e2 : Ev (fun n => m_X12_back n 0 a.toInt (sI v)) (r'.toInt, sI v')) : SI (sI u) (sI v') := by
  obtain ⟨n1, d1⟩ := e1.at
  obtain ⟨n2, d2⟩ := e2.at
  exact f_back h d1 d2
theorem SI_built (h : SI (sI w) (sI v)) (e1 : Ev (fun n => m_X11_built n 0 a.toInt b.toInt c.toInt (sI w)) (r.toInt, sI u)) (e2 : Ev (fun n => m_X12_built n 0 a.toInt b.toInt c.toInt (sI v)) (r'.toInt, sI v')) : SI (sI u) (sI v') := by
  obtain ⟨n1, d1⟩ := e1.at
  obtain ⟨n2, d2⟩ := e2.at
  exact SI_builtM (SI_builtC h d1) d2
theorem SI_street (h : SI (sI w) (sI v)) (e1 : Ev (fun n => m_X11_street n 0 a.toInt b.toInt (sI w)) (r.toInt, sI u)) (e2 : Ev (fun n => m_X12_street n 0 a.toInt b.toInt (sI v)) (r'.toInt, sI v')) : r = r' := by
  obtain ⟨n1, d1⟩ := e1.at
  obtain ⟨n2, d2⟩ := e2.at
  exact wk_eq.mpr (f_street h.1 d1 d2)
theorem SI_shown (h : SI (sI w) (sI v)) (e1 : Ev (fun n => m_X11_shown n 0 a.toInt b.toInt (sI w)) (r.toInt, sI u)) (e2 : Ev (fun n => m_X12_shown n 0 a.toInt b.toInt (sI v)) (r'.toInt, sI v')) : r = r' := by
  obtain ⟨n1, d1⟩ := e1.at
  obtain ⟨n2, d2⟩ := e2.at
  exact wk_eq.mpr (f_shown h d1 d2)
theorem SI_cheap (h : SI (sI w) (sI v)) (e1 : Ev (fun n => m_X11_cheap n 0 a.toInt (sI w)) (r.toInt, sI u)) (e2 : Ev (fun n => m_X12_cheap n 0 a.toInt (sI v)) (r'.toInt, sI v')) : r = r' := by
  obtain ⟨n1, d1⟩ := e1.at
  obtain ⟨n2, d2⟩ := e2.at
  exact wk_eq.mpr (f_cheap h.1 d1 d2)
theorem SI_wrong (h : SI (sI w) (sI v)) (e1 : Ev (fun n => m_X11_wrong n 0 a.toInt (sI w)) (r.toInt, sI u)) (e2 : Ev (fun n => m_X12_wrong n 0 a.toInt (sI v)) (r'.toInt, sI v')) : r = r' := by
  obtain ⟨n1, d1⟩ := e1.at
  obtain ⟨n2, d2⟩ := e2.at
  exact wk_eq.mpr (f_wrong h.1 d1 d2)
end
/-! the ranges of the reference's rows, kept -/
theorem WI_M {E : List (Nat × Nat × Nat)} {w u : va_W} (h : WI (sI w)) (hF : FE ksM E w u) (hE : rkOK E = true) : WI (sI u) :=
  WI_k h (fun k hk => hF.sI kM_at12 (rkOK_in hE (by have o1 := h.1.1.1.2.1; omega))) (fun k => hF.sI kM_at21 (rkOK_in hE (by omega))) (fun k => hF.sI kM_at22 (rkOK_in hE (by omega)))
theorem WI_Mp {E : List (Nat × Nat × Nat)} {w u : va_W} (h : WI (sI w)) (hF : FE ksM E w u) (e80 : ∀ k : Nat, inE E 80 k = false) (e81 : ∀ k : Nat, inE E 81 k = false) (hp : ∀ j : Nat, j < 296 → gi u 12 j = gi w 12 j) : WI (sI u) :=
  WI_k h (fun k hk => congrArg Int32.toInt (hp k (by have o1 := h.1.1.1.2.1; omega))) (fun k => hF.sI kM_at21 (e80 k)) (fun k => hF.sI kM_at22 (e81 k))
section
variable {w u v v' : va_W} {a b c r r' : Int32}
theorem EW_print (h : WI (sI v)) (e2 : Ev (fun n => m_X12_print n 0 a.toInt (sI v)) (r'.toInt, sI v')) : WI (sI v') := by
  obtain ⟨n, e⟩ := e2.at
  exact WI_print h e
theorem EW_misprint (h : WI (sI v)) (e2 : Ev (fun n => m_X12_misprint n 0 a.toInt b.toInt c.toInt (sI v)) (r'.toInt, sI v')) : WI (sI v') := by
  obtain ⟨n, e⟩ := e2.at
  exact WI_misprint h e
theorem EW_errand (h : WI (sI v)) (e2 : Ev (fun n => m_X12_errand n 0 a.toInt b.toInt (sI v)) (r'.toInt, sI v')) : WI (sI v') := by
  obtain ⟨n, e⟩ := e2.at
  exact WI_errand h e
theorem EW_sight (h : WI (sI v)) (e2 : Ev (fun n => m_X12_sight n 0 a.toInt b.toInt (sI v)) (r'.toInt, sI v')) : WI (sI v') := by
  obtain ⟨n, e⟩ := e2.at
  exact WI_sight h e
theorem EW_came (h : WI (sI v)) (e2 : Ev (fun n => m_X12_came n 0 a.toInt (sI v)) (r'.toInt, sI v')) : WI (sI v') := by
  obtain ⟨n, e⟩ := e2.at
  exact WI_came h e
theorem EW_image (h : WI (sI v)) (e2 : Ev (fun n => m_X12_image n 0 a.toInt (sI v)) (r'.toInt, sI v')) : WI (sI v') := by
  obtain ⟨n, e⟩ := e2.at
  exact WI_image h e
theorem EW_back (h : WI (sI v)) (e2 : Ev (fun n => m_X12_back n 0 a.toInt (sI v)) (r'.toInt, sI v')) : WI (sI v') := by
  obtain ⟨n, e⟩ := e2.at
  exact WI_back h e
theorem EW_built (h : WI (sI v)) (e2 : Ev (fun n => m_X12_built n 0 a.toInt b.toInt c.toInt (sI v)) (r'.toInt, sI v')) : WI (sI v') := by
  obtain ⟨n, e⟩ := e2.at
  exact WI_built h e
end
/-! the atlas, at worlds -/
def aiOK (E : List (Nat × Nat × Nat)) : Bool := E.all (fun e => Nat.ble e.1 6 || (Nat.ble 8 e.1 && Nat.ble e.1 23) || (Nat.ble 27 e.1 && Nat.ble e.1 31) || (Nat.ble 33 e.1 && Nat.ble e.1 41) || Nat.ble 45 e.1)
theorem aiOK_in {E : List (Nat × Nat × Nat)} {κ k : Nat} (h : aiOK E = true) (hκ : κ = 7 ∨ (24 ≤ κ ∧ κ ≤ 26) ∨ κ = 32 ∨ (42 ≤ κ ∧ κ ≤ 44)) : inE E κ k = false := by
  cases hb : inE E κ k with
  | false => rfl
  | true =>
    exfalso
    simp only [inE, List.any_eq_true, Bool.and_eq_true, beq_iff_eq, Nat.ble_eq] at hb
    obtain ⟨e, he, ⟨h3, h4⟩, h5⟩ := hb
    simp only [aiOK, List.all_eq_true] at h
    have h6 := h e he
    simp only [Bool.or_eq_true, Bool.and_eq_true, Nat.ble_eq] at h6
    omega
def raOK (E : List (Nat × Nat × Nat)) : Bool := E.all (fun e => Nat.ble 42 e.1)
theorem raOK_in {E : List (Nat × Nat × Nat)} {κ k : Nat} (h : raOK E = true) (hκ : κ < 42) : inE E κ k = false := by
  cases hb : inE E κ k with
  | false => rfl
  | true =>
    exfalso
    simp only [inE, List.any_eq_true, Bool.and_eq_true, beq_iff_eq, Nat.ble_eq] at hb
    obtain ⟨e, he, ⟨h3, h4⟩, h5⟩ := hb
    simp only [raOK, List.all_eq_true] at h
    have h6 := h e he
    simp only [Nat.ble_eq] at h6
    omega
section
variable {E E' : List (Nat × Nat × Nat)} {w w0 u v v' : va_W} {a b c d r r' : Int32} {x : Int}
theorem AI_FE (h : AIc (sI w)) (hF : FE ksC E w u) (hE : aiOK E = true) : AIc (sI u) := AIc_fr h (fun q k hq => by
  rcases hq with rfl | rfl | rfl | rfl | rfl | rfl | rfl | rfl
  · exact hF.sI kC_at39 (aiOK_in hE (by omega))
  · exact hF.sI kC_at40 (aiOK_in hE (by omega))
  · exact hF.sI kC_at41 (aiOK_in hE (by omega))
  · exact hF.sI kC_at42 (aiOK_in hE (by omega))
  · exact hF.sI kC_at48 (aiOK_in hE (by omega))
  · exact hF.sI kC_at146 (aiOK_in hE (by omega))
  · exact hF.sI kC_at147 (aiOK_in hE (by omega))
  · exact hF.sI kC_at148 (aiOK_in hE (by omega)))
theorem ra_fr (hF : FE ksC E w u) (hE : raOK E = true) : ∀ q k : Nat, (q = 39 ∨ q = 40 ∨ q = 41) → sI u q k = sI w q k := fun q k hq => by
  rcases hq with rfl | rfl | rfl
  · exact hF.sI kC_at39 (raOK_in hE (by omega))
  · exact hF.sI kC_at40 (raOK_in hE (by omega))
  · exact hF.sI kC_at41 (raOK_in hE (by omega))
/-- a frame that keeps the atlas right -/
def FA (ks : List Nat) (E : List (Nat × Nat × Nat)) (w0 u : va_W) : Prop := FE ks E w0 u ∧ (AIc (sI w0) → AIc (sI u))
theorem FA.rf : FA ksC E w w := ⟨FE.rf, fun h => h⟩
theorem FA.tr (hF : FA ksC E w0 w) (h : FE ksC E' w u) (hs : (subE E' E && aiOK E') = true) : FA ksC E w0 u := by
  rw [Bool.and_eq_true] at hs
  exact ⟨hF.1.tr h hs.1, fun g => AI_FE (hF.2 g) h hs.2⟩
theorem FA.ra (hF : FA ksC E w0 w) (h : FE ksC E' w u) (e : Ev (fun n => m_X0_refreshAll n 145 (sI w)) (x, sI u)) (hs : (subE E' E && raOK E') = true) : FA ksC E w0 u := by
  rw [Bool.and_eq_true] at hs
  obtain ⟨n, e⟩ := e.at
  exact ⟨hF.1.tr h hs.1, fun g => A_all (hF.2 g) (ra_fr h hs.2) e⟩
theorem AW_print (h : SI (sI w) (sI v)) (hA : AIc (sI w)) (e1 : Ev (fun n => m_X11_print n 0 a.toInt (sI w)) (r.toInt, sI u)) : AIc (sI u) := by
  obtain ⟨n, e⟩ := e1.at
  exact A_print h hA e
theorem AW_misprint (h : SI (sI w) (sI v)) (hA : AIc (sI w)) (e1 : Ev (fun n => m_X11_misprint n 0 a.toInt b.toInt c.toInt (sI w)) (r.toInt, sI u)) : AIc (sI u) := by
  obtain ⟨n, e⟩ := e1.at
  exact A_misprint h hA e
theorem AW_image (h : SI (sI w) (sI v)) (hA : AIc (sI w)) (e1 : Ev (fun n => m_X11_image n 0 a.toInt (sI w)) (r.toInt, sI u)) : AIc (sI u) := by
  obtain ⟨n, e⟩ := e1.at
  exact A_image hA e
theorem AW_back (h : SI (sI w) (sI v)) (hA : AIc (sI w)) (e1 : Ev (fun n => m_X11_back n 0 a.toInt (sI w)) (r.toInt, sI u)) : AIc (sI u) := by
  obtain ⟨n, e⟩ := e1.at
  exact A_back hA e
theorem AW_built (h : SI (sI w) (sI v)) (hA : AIc (sI w)) (e1 : Ev (fun n => m_X11_built n 0 a.toInt b.toInt c.toInt (sI w)) (r.toInt, sI u)) : AIc (sI u) := by
  obtain ⟨n, e⟩ := e1.at
  exact A_built h hA e
theorem AW_by (h : SI (sI w) (sI v)) (hA : AIc (sI w)) (hF : FE ksC E w u) (hE : raOK E = true) (e1 : Ev (fun n => m_X11_by n 0 a.toInt b.toInt c.toInt d.toInt (sI w)) (r.toInt, sI u)) : AIc (sI u) := by
  obtain ⟨n, e⟩ := e1.at
  exact A_by h hA (ra_fr hF hE) e
theorem SI_by (h : SI (sI w) (sI v)) (hW : WI (sI v)) (hA : AIc (sI w)) (e1 : Ev (fun n => m_X11_by n 0 a.toInt b.toInt c.toInt d.toInt (sI w)) (r.toInt, sI u)) (e2 : Ev (fun n => m_X12_by n 0 a.toInt b.toInt c.toInt d.toInt (sI v)) (r'.toInt, sI v')) : r = r' := by
  obtain ⟨n1, d1⟩ := e1.at
  obtain ⟨n2, d2⟩ := e2.at
  exact wk_eq.mpr (f_by h.1 hW.1.1 (hA _ _ _ _ _ (TKX_S h.1 hW.1.1)) d1 d2)
end
theorem AW_town {adC : Nat → Nat} {cy : Nat → ClassId} {B s1 : Int} {q1 : Nat} {w u v : va_W} {r : Int32} (h : TR (sI w) (sI v)) (hT : TW ksC adC cy B q1 s1 w) (hA : AIc (sI w)) (e1 : Ev (fun n => m_X11_town n 0 (sI w)) (r.toInt, sI u)) : AIc (sI u) := by
  obtain ⟨n1, e1⟩ := e1.at
  exact A_townT h (hT.rdS (k := 2) kC_at1 (by decide) rfl).2 (fun j hj => (hT.rdU (i := j) kC_at2 (Or.inl rfl) rfl hj).1) hA e1
/-! strangers, at worlds -/
theorem and15g (x : Int32) : (x &&& 15).toInt = x.toInt % 16 := by
  have e3 : (x &&& 15).toBitVec.toNat = x.toBitVec.toNat &&& 15 := by
    rw [Int32.toBitVec_and, BitVec.toNat_and]; rfl
  have e4 : x.toBitVec.toNat &&& 15 = x.toBitVec.toNat % 16 := Nat.and_two_pow_sub_one_eq_mod _ 4
  have e5 := wk_bvi (x := x &&& 15) (by omega)
  have e6 := wk_bv x
  split at e6 <;> omega
theorem DPs_RW {w : va_W} (h : RW w) : DPs (sI w) := by
  intro r c hr hc
  have e1 : (36 * (r : Int) + 3 * (c : Int) + 1).toNat = 36 * r + 3 * c + 1 := by omega
  have e2 : (36 * (r : Int) + 3 * (c : Int) + 2).toNat = 36 * r + 3 * c + 2 := by omega
  have h1 := h (r : Int) (c : Int) (by omega) (by omega) (by omega) hc
  rw [e1, e2] at h1
  rcases h1 with h1 | ⟨h1, h2, D, d0, d1, hD⟩
  · exact Or.inl h1
  · by_cases hb : (gi w 4 (36 * r + 3 * c + 1)).toInt < 0
    · exact Or.inl hb
    · refine Or.inr ⟨fun j => D (j : Int), ?_, fun j j0 j1 => ?_⟩
      · show D (((gi w 4 (36 * r + 3 * c + 1)).toInt.toNat : Nat) : Int) = 0
        rw [Int.toNat_of_nonneg (by omega)]; exact d0
      · have k0 : (gi w 4 (36 * r + 3 * c + 1)).toInt.toNat ≤ j := j0
        have k1 : (j : Int) < (gi w 4 (36 * r + 3 * c + 2)).toInt := j1
        obtain ⟨g1, g2, g3⟩ := hD (j : Int) (by omega) k1
        have e3 : (400 * (r : Int) + 1 * (j : Int) + 0).toNat = 400 * r + j := by omega
        rw [e3] at g1
        have e4 : sI w 2 (400 * r + j) % 16 = (gi w 2 (400 * r + j) &&& 15).toInt := (and15g _).symm
        have e5 : D (((j + 1 : Nat)) : Int) = D ((j : Int) + 1) := by rw [show (((j + 1 : Nat)) : Int) = (j : Int) + 1 by omega]
        show D (((j + 1 : Nat)) : Int) ≤ 64 ∧ ((sI w 2 (400 * r + j) % 16 = 0 ∨ sI w 2 (400 * r + j) % 16 = 1) → D (((j + 1 : Nat)) : Int) = D (j : Int) + 1) ∧ (sI w 2 (400 * r + j) % 16 = 11 → D (((j + 1 : Nat)) : Int) = D (j : Int)) ∧ (sI w 2 (400 * r + j) % 16 ≠ 0 → sI w 2 (400 * r + j) % 16 ≠ 1 → sI w 2 (400 * r + j) % 16 ≠ 11 → D (((j + 1 : Nat)) : Int) = D (j : Int) - 1)
        rw [e4, e5]
        unfold okT at g1
        generalize (gi w 2 (400 * r + j) &&& 15).toInt = y at g1 ⊢
        generalize D ((j : Int) + 1) = z at g1 g3 ⊢
        generalize D (j : Int) = d at g1 ⊢
        refine ⟨g3, fun q => ?_, fun q => ?_, fun q1 q2 q3 => ?_⟩
        · rcases g1 with ⟨a, b⟩ | ⟨a, -, -, b⟩ | ⟨a, -, b⟩ | ⟨a, b, c, -, f⟩ <;> omega
        · rcases g1 with ⟨a, b⟩ | ⟨a, -, -, b⟩ | ⟨a, -, b⟩ | ⟨a, b, c, -, f⟩ <;> omega
        · rcases g1 with ⟨a, b⟩ | ⟨a, -, -, b⟩ | ⟨a, -, b⟩ | ⟨a, b, c, -, f⟩ <;> omega
def rlOK (E : List (Nat × Nat × Nat)) : Bool := E.all (fun e => Nat.ble e.1 1 || (Nat.ble 3 e.1 && Nat.ble e.1 20) || Nat.ble 24 e.1)
theorem rlOK_in {E : List (Nat × Nat × Nat)} {κ k : Nat} (h : rlOK E = true) (hκ : κ = 2 ∨ (21 ≤ κ ∧ κ ≤ 23)) : inE E κ k = false := by
  cases hb : inE E κ k with
  | false => rfl
  | true =>
    exfalso
    simp only [inE, List.any_eq_true, Bool.and_eq_true, beq_iff_eq, Nat.ble_eq] at hb
    obtain ⟨e, he, ⟨h3, h4⟩, h5⟩ := hb
    simp only [rlOK, List.all_eq_true] at h
    have h6 := h e he
    simp only [Bool.or_eq_true, Bool.and_eq_true, Nat.ble_eq] at h6
    omega
theorem ks_rule : ∀ q : Nat, q < 24 → ksC[5 + q]? = some ([2, 21, 22, 23].getD (q % 4) 0) := by decide
theorem rl_at {q : Nat} (h5 : 5 ≤ q) (h29 : q < 29) : ∃ κ : Nat, ksC[q]? = some κ ∧ (κ = 2 ∨ (21 ≤ κ ∧ κ ≤ 23)) := by
  have h := ks_rule (q - 5) (by omega)
  rw [show 5 + (q - 5) = q by omega] at h
  refine ⟨_, h, ?_⟩
  have h4 : (q - 5) % 4 < 4 := Nat.mod_lt _ (by decide)
  generalize (q - 5) % 4 = j at h4 ⊢
  rcases (show j = 0 ∨ j = 1 ∨ j = 2 ∨ j = 3 by omega) with rfl | rfl | rfl | rfl <;> decide
def LX (w v : va_W) : Prop := RRs (sI w) (sI v) ∧ XSd (sI w) (sI v) ∧ gi w 149 9 = 0 ∧ gi v 0 27 = 1 ∧ gi v 0 30 = 0
section
variable {E E' : List (Nat × Nat × Nat)} {w u v v' : va_W} {σ τ : SS} {a b c d r r' : Int32}
theorem RR_C (h : RRs (sI w) τ) (hF : FE ksC E w u) (hE : rlOK E = true) : RRs (sI u) τ := RRs_k h (fun q k q5 q29 => by
  obtain ⟨κ, h1, h2⟩ := rl_at q5 q29
  exact hF.sI h1 (rlOK_in hE h2)) ⟨rfl, fun _ _ _ => rfl⟩
theorem RR_M (h : RRs σ (sI w)) (hF : FE ksM E w u) (e2 : inE E 12 2 = false) (x : ∀ k : Nat, inE E 61 k = false) (y : ∀ k : Nat, inE E 63 k = false) (z : ∀ k : Nat, inE E 64 k = false) : RRs σ (sI u) := RRs_k h (fun _ _ _ _ => rfl) ⟨hF.sI kM_at0 e2, fun q k hq => by
  rcases hq with rfl | rfl | rfl
  · exact hF.sI kM_at2 (x k)
  · exact hF.sI kM_at4 (y k)
  · exact hF.sI kM_at5 (z k)⟩
theorem XR_ci (hF : FE ksC E w u) (e : inE E 5 13 = false) : ∀ i : Nat, i < 4 → sI u (60 + 21 * i) 13 = sI w (60 + 21 * i) 13 := fun i hi => by
  rcases (show i = 0 ∨ i = 1 ∨ i = 2 ∨ i = 3 by omega) with rfl | rfl | rfl | rfl
  · exact hF.sI kC_at60 e
  · exact hF.sI kC_at81 e
  · exact hF.sI kC_at102 e
  · exact hF.sI kC_at123 e
theorem XR_C (h : XSd (sI w) τ) (hF : FE ksC E w u) (e : inE E 5 13 = false) : XSd (sI u) τ := XR_k h (hF.sI kC_at38 e) (XR_ci hF e) (fun _ _ => rfl) (fun _ => rfl) (fun _ => rfl)
theorem XR_M (h : XSd σ (sI w)) (hF : FE ksM E w u) (e0 : inE E 71 0 = false) (e4 : inE E 71 4 = false) (e9 : inE E 71 9 = false) (x : ∀ k : Nat, inE E 80 k = false) (y : ∀ k : Nat, inE E 81 k = false) : XSd σ (sI u) := XR_k h rfl (fun _ _ => rfl) (fun k hk => by
  rcases hk with rfl | rfl | rfl
  · exact hF.sI kM_at12 e0
  · exact hF.sI kM_at12 e4
  · exact hF.sI kM_at12 e9) (fun k => hF.sI kM_at21 (x k)) (fun k => hF.sI kM_at22 (y k))
theorem XR_Mp (h : XSd σ (sI w)) (hF : FE ksM E w u) (x : ∀ k : Nat, inE E 80 k = false) (y : ∀ k : Nat, inE E 81 k = false) (hp : ∀ j : Nat, j < 296 → gi u 12 j = gi w 12 j) : XSd σ (sI u) := XR_k h rfl (fun _ _ => rfl) (fun k hk => congrArg Int32.toInt (hp k (by omega))) (fun k => hF.sI kM_at21 (x k)) (fun k => hF.sI kM_at22 (y k))
theorem XW_image (h : XSd (sI w) (sI v)) (e1 : Ev (fun n => m_X11_image n 0 a.toInt (sI w)) (r.toInt, sI u)) (e2 : Ev (fun n => m_X12_image n 0 a.toInt (sI v)) (r'.toInt, sI v')) : XSd (sI u) (sI v') := by
  obtain ⟨n1, d1⟩ := e1.at
  obtain ⟨n2, d2⟩ := e2.at
  exact X_image h d1 d2
theorem XW_back (hS : SI (sI w) (sI v)) (h : XSd (sI w) (sI v)) (e1 : Ev (fun n => m_X11_back n 0 a.toInt (sI w)) (r.toInt, sI u)) (e2 : Ev (fun n => m_X12_back n 0 a.toInt (sI v)) (r'.toInt, sI v')) : XSd (sI u) (sI v') := by
  obtain ⟨n1, d1⟩ := e1.at
  obtain ⟨n2, d2⟩ := e2.at
  exact X_back hS.2.1 h d1 d2
theorem XW_seed (h : XSd (sI w) (sI v)) (e1 : Ev (fun n => m_X11_seed n 0 a.toInt (sI w)) (r.toInt, sI u)) (e2 : Ev (fun n => m_X12_seed n 0 a.toInt (sI v)) (r'.toInt, sI v')) : XSd (sI u) (sI v') := by
  obtain ⟨n1, d1⟩ := e1.at
  obtain ⟨n2, d2⟩ := e2.at
  exact X_seed h d1 d2
theorem XW_print (hW : WI (sI v)) (h : XSd (sI w) (sI v)) (hF : FE ksC E w u) (e : inE E 5 13 = false) (hG : FE ksM E' v v') (e0 : inE E' 71 0 = false) (e9 : inE E' 71 9 = false) (x : ∀ k : Nat, inE E' 80 k = false) (y : ∀ k : Nat, inE E' 81 k = false) (e2 : Ev (fun n => m_X12_print n 0 a.toInt (sI v)) (r'.toInt, sI v')) : XSd (sI u) (sI v') := by
  obtain ⟨n2, d2⟩ := e2.at
  exact X_print h (hF.sI kC_at38 e) (XR_ci hF e) (hG.sI kM_at12 e0) (hG.sI kM_at12 e9) (fun k => hG.sI kM_at21 (x k)) (fun k => hG.sI kM_at22 (y k)) hW.1.1.1.1.1 d2
theorem SI_strangers {adC adM : Nat → Nat} {cy : Nat → ClassId} {B B' s1 s1' : Int} {q1 q2 : Nat} (hS : SI (sI w) (sI v)) (hW : WI (sI v)) (hA : AIc (sI w)) (hT : TR (sI w) (sI v)) (hL : LX w v) (hR : RW v) (hTc : TW ksC adC cy B q1 s1 w) (hTm : TW ksM adM cy B' q2 s1' v) (e1 : Ev (fun n => m_X11_strangers n 0 a.toInt b.toInt c.toInt d.toInt (sL w)) (r.toInt, sL u)) (e2 : Ev (fun n => m_X12_strangers n 0 a.toInt b.toInt c.toInt d.toInt (sL v)) (r'.toInt, sL v')) : r = r' ∧ AIc (sI u) := by
  obtain ⟨n1, d1⟩ := e1.at
  obtain ⟨n2, d2⟩ := e2.at
  obtain ⟨l1, l2, l3, l4, l5⟩ := hL
  have v12 : sL v 12 = sI v 12 := funext fun k => sL_I (by decide)
  have t2 := hTm.rdS (k := 2) kM_at0 (by decide) rfl
  have tx := hTc.rdS (k := 13) kC_at38 (by decide) rfl
  have x9 : sI v 12 9 = sI w 38 13 := l2.1.1.symm
  have hS' : SRel 38 (sL w) (sL v 12) := SRel_mv hS.1 (StE.fr (fun p k _ h2 => sL_I (by omega))) (fun k _ => sL_I (by decide))
  have hG' : GD (sL v 12) := by rw [v12]; exact hW.1.1
  have hA' : AIc (sL w) := AIc_fr hA (fun q k hq => sL_I (by omega))
  have rk : RK (sI v) (sL v) := ⟨sL_I (by decide), fun q k hq => sL_I (by omega)⟩
  obtain ⟨g1, -, g3⟩ := f_strangers hS' hG' hA' (RRs_k l1 (fun q k _ _ => sL_I (by omega)) rk) (DPs_k (DPs_RW hR) rk) (by rw [v12]; exact l2.1.2) (by rw [sL_at (by decide) l4]; decide) ((sL_at (by decide) l5).trans (by decide)) ((sL_at (by decide) l3).trans (by decide)) (by rw [v12, sL_I (by decide)]; exact l2.1.1) (by rw [v12, x9]; exact tx.1) (by rw [v12, x9]; exact tx.2) (by rw [sL_I (by decide), sL_I (by decide)]; exact hT.2) (by rw [sL_I (by decide)]; exact t2.1) (by rw [sL_I (by decide)]; exact t2.2) d1 d2
  exact ⟨wk_eq.mpr g1, AIc_fr g3 (fun q k hq => (sL_I (by omega)).symm)⟩
end
theorem RR_rule {adC adM : Nat → Nat} {cy : Nat → ClassId} {B B' s1 s1' : Int} {q1 q2 : Nat} {w u v v' : va_W} {r r' : Int32} (h : TR (sI w) (sI v)) (hR : RRs (sI w) (sI v)) (hT : TW ksC adC cy B q1 s1 w) (hM : TW ksM adM cy B' q2 s1' v) (e1 : Ev (fun n => m_X11_rule n 0 (sI w)) (r.toInt, sI u)) (e2 : Ev (fun n => m_X12_rule n 0 (sI v)) (r'.toInt, sI v')) : RRs (sI u) (sI v') := by
  obtain ⟨n1, e1⟩ := e1.at
  obtain ⟨n2, e2⟩ := e2.at
  have t2 := hM.rdS (k := 2) kM_at0 (by decide) rfl
  exact f_rulex h (hT.rdS (k := 2) kC_at1 (by decide) rfl).2 (fun j hj => (hT.rdU (i := j) kC_at2 (Or.inl rfl) rfl hj).1) (fun j hj => hM.rdU (i := j) kM_at1 (Or.inr (Or.inr rfl)) rfl hj) t2.1 t2.2 hR e1 e2
theorem XW_town {adC adM : Nat → Nat} {cy : Nat → ClassId} {B B' s1 s1' : Int} {q1 q2 : Nat} {E E' : List (Nat × Nat × Nat)} {w u v v' : va_W} {r' : Int32} (ht : TR (sI w) (sI v)) (h : XSd (sI w) (sI v)) (hT : TW ksC adC cy B q1 s1 w) (hM : TW ksM adM cy B' q2 s1' v) (hF : FE ksC E w u) (e : inE E 5 13 = false) (hG : FE ksM E' v v') (x : ∀ k : Nat, inE E' 80 k = false) (y : ∀ k : Nat, inE E' 81 k = false) (hq : (TWN (sI u) (sI v') ∧ ∀ q k : Nat, 58 < q → q ≠ 148 → sI u q k = sI w q k) ∨ ((∀ q k : Nat, 38 ≤ q → sI u q k = sI w q k) ∧ ∀ k : Nat, sI v' 12 k = sI v 12 k)) (e2 : Ev (fun n => m_X12_town n 0 (sI v)) (r'.toInt, sI v')) : XSd (sI u) (sI v') := by
  obtain ⟨n2, e2⟩ := e2.at
  exact X_town h (hF.sI kC_at38 e) (XR_ci hF e) (f_town9 ht (fun j hj => hM.rdU (i := j) kM_at1 (Or.inr (Or.inr rfl)) rfl hj) (hT.rdS (k := 2) kC_at1 (by decide) rfl).2 e2) (fun k => hG.sI kM_at21 (x k)) (fun k => hG.sI kM_at22 (y k)) hq
