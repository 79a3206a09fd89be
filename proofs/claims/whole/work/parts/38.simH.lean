section SIMH
variable {k : Nat} {I J I' J' : gI} {P : gP} {LG : Option Nat} {LP : Option (Nat × Nat)}
theorem lost_iff (h : Rb k I J P LG LP) {g q : Nat} (hg : g < 6) (hq : q < 24) : (I (pg q) 1 = nI (g + 1) ∨ I (pg q) 3 = nI (g + 1)) ↔ (J (ma 1) q = nI (g + 1) ∨ (J (ma 1) q = 7 ∧ J (ma 2) q = nI (g + 1))) := by
  have h0 := nI_g0 hg
  have h7 := nI_gn7 hg
  have h8 := nI_gn8 hg
  obtain ⟨-, ⟨e1, -, -, -⟩, hkd, -⟩ := h.page hq
  rcases hkd with ⟨z1, -, -, z3⟩ | ⟨z1, -, -, z3, -⟩ | ⟨z1, -, -, z3⟩ | ⟨g', hl, z1, -, z3⟩
  · rw [e1, z1, z3]
    exact ⟨fun z => by rcases z with z | z <;> exact absurd z.symm h0, fun z => by rcases z with z | z; exact absurd z.symm h0; exact absurd z.1 (by decide)⟩
  · rw [e1, z1, z3]
    exact ⟨fun z => by rcases z with z | z; exact Or.inl z; exact Or.inr ⟨rfl, z⟩, fun z => by rcases z with z | z; exact Or.inl z; exact Or.inr z.2⟩
  · rw [e1, z1, z3]
    exact ⟨fun z => by rcases z with z | z; exact absurd z.symm h8; exact absurd z.symm h0, fun z => by rcases z with z | z; exact absurd z.symm h8; exact absurd z.1 (by decide)⟩
  · rw [e1, z1, z3]
    have hk := h.hk
    have hg' := hl.1
    exact ⟨fun z => by rcases z with z | z; exact Or.inl z; exact absurd z.symm h0, fun z => by rcases z with z | z; exact Or.inl z; exact absurd z.1 (nI_gn7 (by omega))⟩
theorem des_core (h : Rb k I J P LG LP) {g : Nat} (hl : liv J k g) (hLd : Rld k J' LG LP)
    (i1 : ∀ n : gN, ¬ n.1 = 2 → ¬ n = gs g → I' n = I n)
    (i2 : ∀ f, I' (gs g) f = if f = 3 then 0 else I (gs g) f)
    (i3 : ∀ q, q < 24 → I' (pg q) 2 = (if I (pg q) 2 = nI (g + 1) then 0 else I (pg q) 2) ∧
      ((I (pg q) 1 = nI (g + 1) ∨ I (pg q) 3 = nI (g + 1)) → I' (pg q) 1 = 8 ∧ I' (pg q) 3 = 0 ∧ I' (pg q) 4 = 0 ∧ I' (pg q) 5 = 0) ∧
      (¬ (I (pg q) 1 = nI (g + 1) ∨ I (pg q) 3 = nI (g + 1)) → I' (pg q) 1 = I (pg q) 1 ∧ I' (pg q) 3 = I (pg q) 3 ∧ I' (pg q) 4 = I (pg q) 4 ∧ I' (pg q) 5 = I (pg q) 5))
    (j1 : ∀ (n : gN) f, ¬ (n = ma 1 ∨ n = ma 3 ∨ n = mb 5 ∨ n = mb 6) → ¬ (n = mb 8 ∧ f = g + 1) → J' n f = J n f) (j2 : J' (mb 8) (g + 1) = 0)
    (j3 : ∀ q, q < 24 → J' (ma 3) q = (if J (ma 3) q = nI (g + 1) then 0 else J (ma 3) q) ∧
      ((J (ma 1) q = nI (g + 1) ∨ (J (ma 1) q = 7 ∧ J (ma 2) q = nI (g + 1))) → J' (ma 1) q = 8 ∧ J' (mb 5) q = 0 ∧ J' (mb 6) q = 0) ∧
      (¬ (J (ma 1) q = nI (g + 1) ∨ (J (ma 1) q = 7 ∧ J (ma 2) q = nI (g + 1))) → J' (ma 1) q = J (ma 1) q ∧ J' (mb 5) q = J (mb 5) q ∧ J' (mb 6) q = J (mb 6) q)) : Rb k I' J' P LG LP := by
  have hk := h.hk
  have hgk := hl.1
  have hg6 : g < 6 := by omega
  have h0 := nI_g0 hg6
  have h7 := nI_gn7 hg6
  have h8 := nI_gn8 hg6
  have jA : ∀ f, J' (mb 9) f = J (mb 9) f := fun f => j1 _ _ (by simp) (by simp)
  have jw : ∀ f, J' (ma 0) f = J (ma 0) f := fun f => j1 _ _ (by simp) (by simp)
  have j_2 : ∀ f, J' (ma 2) f = J (ma 2) f := fun f => j1 _ _ (by simp) (by simp)
  have j_4 : ∀ f, J' (ma 4) f = J (ma 4) f := fun f => j1 _ _ (by simp) (by simp)
  have j10 : ∀ f, J' (ma 10) f = J (ma 10) f := fun f => j1 _ _ (by simp) (by simp)
  have j11 : ∀ f, J' (ma 11) f = J (ma 11) f := fun f => j1 _ _ (by simp) (by simp)
  have j12 : ∀ f, J' (ma 12) f = J (ma 12) f := fun f => j1 _ _ (by simp) (by simp)
  have j15 : ∀ f, J' (ma 15) f = J (ma 15) f := fun f => j1 _ _ (by simp) (by simp)
  have jm : ∀ f, J' mo f = J mo f := fun f => j1 _ _ (by simp) (by simp)
  have j8 : ∀ g', ¬ g' = g → J' (mb 8) (g' + 1) = J (mb 8) (g' + 1) := fun g' hn => j1 _ _ (by simp) (fun z => hn (by have := z.2; omega))
  have iw : ∀ q, I' (wd q) = I (wd q) := fun q => i1 _ (by simp) (by simp)
  have ik : I' kp = I kp := i1 _ (by simp) (by simp)
  have ih : I' hg = I hg := i1 _ (by simp) (by simp)
  have ip : ∀ g v, I' (pr g v) = I (pr g v) := fun g v => i1 _ (by simp) (by simp)
  have ir : ∀ g v, I' (rg g v) = I (rg g v) := fun g v => i1 _ (by simp) (by simp)
  have ig : ∀ g', ¬ g' = g → I' (gs g') = I (gs g') := fun g' hn => i1 _ (by simp) (by simp; exact hn)
  have lv : ∀ g', liv J k g' → ¬ g' = g → liv J' k g' := fun g' hz hn => ⟨hz.1, (j8 g' hn).trans hz.2⟩
  -- the holders
  have hol : ∀ q, q < 24 → (mHolder J q = nI (g + 1) ∧ mHolder J' q = 0) ∨ (¬ mHolder J q = nI (g + 1) ∧ (mHolder J' q = mHolder J q)) := fun q hq => by
    obtain ⟨p3, p1, pn⟩ := j3 q hq
    obtain ⟨-, -, hkd, -⟩ := h.page hq
    rcases hkd with ⟨z1, -, z3, -⟩ | ⟨z1, -, z3, -⟩ | ⟨z1, -, z3, -⟩ | ⟨g', hl', z1, z3, -⟩
    · obtain ⟨n1, -, -⟩ := pn (by rintro (z | z); exact h0 (z.symm.trans z1); exact absurd (z1.symm.trans z.1) (by decide))
      rcases z3 with z3 | ⟨g', hl', z3⟩
      · have e3 : J' (ma 3) q = 0 := by rw [p3, z3, if_neg (fun z => h0 z.symm)]
        have a1 := hol_0 z3 z1 (Or.inl (by decide))
        have a2 := hol_0 e3 (n1.trans z1) (Or.inl (by decide))
        exact Or.inr ⟨fun z => h0 (z.symm.trans a1), a2.trans a1.symm⟩
      · have hg' := hl'.1
        have a1 := hol_lent (by omega) z3
        by_cases e : g' = g
        · subst e
          have e3 : J' (ma 3) q = 0 := by rw [p3, z3, if_pos rfl]
          exact Or.inl ⟨a1, hol_0 e3 (n1.trans z1) (Or.inl (by decide))⟩
        · have hne : ¬ nI (g' + 1) = nI (g + 1) := fun z => e (nI_ginj (by omega) hg6 z)
          have e3 : J' (ma 3) q = nI (g' + 1) := by rw [p3, z3, if_neg hne]
          exact Or.inr ⟨fun z => hne (a1.symm.trans z), (hol_lent (by omega) e3).trans a1.symm⟩
    · have e3 : J' (ma 3) q = 0 := by rw [p3, z3, if_neg (fun z => h0 z.symm)]
      have a1 := hol_0 z3 z1 (Or.inr (by decide))
      have a2 : mHolder J' q = 0 := by
        by_cases c : J (ma 1) q = nI (g + 1) ∨ (J (ma 1) q = 7 ∧ J (ma 2) q = nI (g + 1))
        · exact hol_0 e3 (p1 c).1 (Or.inr (by decide))
        · exact hol_0 e3 ((pn c).1.trans z1) (Or.inr (by decide))
      exact Or.inr ⟨fun z => h0 (z.symm.trans a1), a2.trans a1.symm⟩
    · have e3 : J' (ma 3) q = 0 := by rw [p3, z3, if_neg (fun z => h0 z.symm)]
      have a1 := hol_0 z3 z1 (Or.inr (by decide))
      have a2 : mHolder J' q = 0 := by
        by_cases c : J (ma 1) q = nI (g + 1) ∨ (J (ma 1) q = 7 ∧ J (ma 2) q = nI (g + 1))
        · exact hol_0 e3 (p1 c).1 (Or.inr (by decide))
        · exact hol_0 e3 ((pn c).1.trans z1) (Or.inr (by decide))
      exact Or.inr ⟨fun z => h0 (z.symm.trans a1), a2.trans a1.symm⟩
    · have e3 : J' (ma 3) q = 0 := by rw [p3, z3, if_neg (fun z => h0 z.symm)]
      have hg' := hl'.1
      have a1 := hol_own (by omega) z3 z1
      by_cases e : g' = g
      · subst e
        exact Or.inl ⟨a1, hol_0 e3 (p1 (Or.inl z1)).1 (Or.inr (by decide))⟩
      · have hne : ¬ nI (g' + 1) = nI (g + 1) := fun z => e (nI_ginj (by omega) hg6 z)
        have n1 := (pn (by rintro (z | z); exact hne (z1.symm.trans z); exact nI_gn7 (by omega) (z1.symm.trans z.1))).1
        exact Or.inr ⟨fun z => hne (a1.symm.trans z), (hol_own (by omega) e3 (n1.trans z1)).trans a1.symm⟩
  refine ⟨⟨hk, by rw [ik]; exact h.hmk, by rw [jm]; exact h.hmd⟩, fun q hq => ?_, fun q hq => ?_, fun g' hg' => ?_, fun g' hg' v hv => ?_, fun g' h1 h2 => ?_, hLd, by rw [ik, jm]; exact h.flt, fun j hj => by rw [ih, j15]; exact h.reg j hj, h.hPl⟩
  · -- pages
    obtain ⟨s2, s1, sn⟩ := i3 q hq
    obtain ⟨p3, p1, pn⟩ := j3 q hq
    have hiff := lost_iff h hg6 hq
    obtain ⟨w0, ⟨e1, e2, e4, e5⟩, hkd, h5, h6, hm⟩ := h.page hq
    have e2' : I' (pg q) 2 = J' (ma 3) q := by rw [s2, p3, e2]
    refine ⟨fun j hj => by rw [iw, jw]; exact w0 j hj, ?_⟩
    by_cases c : J (ma 1) q = nI (g + 1) ∨ (J (ma 1) q = 7 ∧ J (ma 2) q = nI (g + 1))
    · obtain ⟨a1, a3, a4, a5⟩ := s1 (hiff.mpr c)
      obtain ⟨b1, b5, b6⟩ := p1 c
      have z3 : J (ma 3) q = 0 := by
        rcases hkd with ⟨z1, -, -, -⟩ | ⟨z1, -, z3, -⟩ | ⟨z1, -, z3, -⟩ | ⟨g', hl', z1, z3, -⟩
        · exfalso
          rcases c with c | c
          · exact h0 (c.symm.trans z1)
          · exact absurd (z1.symm.trans c.1) (by decide)
        · exact z3
        · exact z3
        · exact z3
      have b3 : J' (ma 3) q = 0 := by rw [p3, z3, if_neg (fun z => h0 z.symm)]
      exact ⟨⟨a1.trans b1.symm, e2', a4.trans b5.symm, a5.trans b6.symm⟩, Or.inr (Or.inr (Or.inl ⟨b1, b5, b3, a3⟩)), Or.inl b5, Or.inl b6, fun z => absurd b6 z⟩
    · obtain ⟨a1, a3, a4, a5⟩ := sn (fun z => c (hiff.mp z))
      obtain ⟨b1, b5, b6⟩ := pn c
      refine ⟨⟨by rw [a1, b1, e1], e2', by rw [a4, b5, e4], by rw [a5, b6, e5]⟩, ?_, by rw [b5]; exact h5, by rw [b6]; exact h6, by rw [b6, mMay, b1, b5]; exact hm⟩
      rcases hkd with ⟨z1, z5, z3, zi⟩ | ⟨z1, z5, z3, zi, g', hl', z2⟩ | ⟨z1, z5, z3, zi⟩ | ⟨g', hl', z1, z3, zi⟩
      · refine Or.inl ⟨b1.trans z1, b5.trans z5, ?_, a3.trans zi⟩
        rcases z3 with z3 | ⟨g', hl', z3⟩
        · exact Or.inl (by rw [p3, z3, if_neg (fun z => h0 z.symm)])
        · by_cases e : g' = g
          · exact Or.inl (by rw [p3, z3, e, if_pos rfl])
          · have hg' := hl'.1
            exact Or.inr ⟨g', lv g' hl' e, by rw [p3, z3, if_neg (fun z => e (nI_ginj (by omega) hg6 z))]⟩
      · have e : ¬ g' = g := fun e => c (Or.inr ⟨z1, by rw [z2, e]⟩)
        exact Or.inr (Or.inl ⟨b1.trans z1, b5.trans z5, by rw [p3, z3, if_neg (fun z => h0 z.symm)], by rw [a3, j_2]; exact zi, g', lv g' hl' e, by rw [j_2]; exact z2⟩)
      · exact Or.inr (Or.inr (Or.inl ⟨b1.trans z1, b5.trans z5, by rw [p3, z3, if_neg (fun z => h0 z.symm)], a3.trans zi⟩))
      · have e : ¬ g' = g := fun e => c (Or.inl (by rw [z1, e]))
        exact Or.inr (Or.inr (Or.inr ⟨g', lv g' hl' e, b1.trans z1, by rw [p3, z3, if_neg (fun z => h0 z.symm)], a3.trans zi⟩))
  · rcases hol q hq with ⟨-, z⟩ | ⟨-, z⟩
    · exact Or.inl z
    · rw [z, j_4]; exact h.rng q hq
  · obtain ⟨g0, g3, g01, g4, gl⟩ := h.gu hg'
    by_cases e : g' = g
    · subst e
      refine ⟨by rw [i2]; exact g0, by rw [i2, j2]; rfl, Or.inl j2, by rw [i2, jA]; exact g4, fun z => ?_⟩
      rw [j2] at z
      exact absurd z (by decide)
    · have hne : ¬ nI (g' + 1) = nI (g + 1) := fun z => e (nI_ginj (by omega) hg6 z)
      refine ⟨by rw [ig g' e]; exact g0, by rw [ig g' e, j8 g' e]; exact g3, by rw [j8 g' e]; exact g01, by rw [ig g' e, jA]; exact g4, fun z => ?_⟩
      obtain ⟨y1, y2⟩ := gl ((j8 g' e).symm.trans z)
      have hkp : mKept J' (nI (g' + 1)) = mKept J (nI (g' + 1)) := cntB_congr (fun p hp => by
        obtain ⟨-, p1, pn⟩ := j3 p hp
        rw [j_2]
        by_cases c : J (ma 1) p = nI (g + 1) ∨ (J (ma 1) p = 7 ∧ J (ma 2) p = nI (g + 1))
        · rw [(p1 c).1]
          have n1 : ¬ (J (ma 1) p = 7 ∧ J (ma 2) p = nI (g' + 1)) := by
            rintro ⟨t1, t2⟩
            rcases c with c | c
            · exact h7 (c.symm.trans t1)
            · exact hne (t2.symm.trans c.2)
          have n2 : ¬ ((8 : Int32) = 7 ∧ J (ma 2) p = nI (g' + 1)) := fun t => absurd t.1 (by decide)
          rw [decide_eq_false n1, decide_eq_false n2]
        · rw [(pn c).1])
      refine ⟨by rw [ig g' e, hkp]; exact y1, fun a ha q => (y2 a ha q).trans ?_⟩
      have h0' := nI_g0 (show g' < 6 by omega)
      constructor
      · rintro ⟨hq, t1, t2⟩
        refine ⟨hq, ?_, by rw [j_4]; exact t2⟩
        rcases hol q hq with ⟨y, -⟩ | ⟨-, y⟩
        · exact absurd (t1.symm.trans y) hne
        · exact y.trans t1
      · rintro ⟨hq, t1, t2⟩
        refine ⟨hq, ?_, by rw [← j_4]; exact t2⟩
        rcases hol q hq with ⟨-, y⟩ | ⟨-, y⟩
        · exact absurd (t1.symm.trans y) h0'
        · exact y.symm.trans t1
  · have := h.pr hg' hv
    simp only [Rpr, ctOK, ip, ir, j10, j11, j12] at this ⊢
    exact this
  · have := h.fr g' h1 h2
    simp only [jA, j10, j11, j12] at this ⊢
    exact this
theorem des_i3 {g q : Nat} (h0 : ¬ nI (g + 1) = 0) (h8 : ¬ nI (g + 1) = 8) (hq : q < 24) : sLoseN (iu I (gs g) 3 0) (nI (g + 1)) 24 (pg q) 2 = (if I (pg q) 2 = nI (g + 1) then 0 else I (pg q) 2) ∧
      ((I (pg q) 1 = nI (g + 1) ∨ I (pg q) 3 = nI (g + 1)) → sLoseN (iu I (gs g) 3 0) (nI (g + 1)) 24 (pg q) 1 = 8 ∧ sLoseN (iu I (gs g) 3 0) (nI (g + 1)) 24 (pg q) 3 = 0 ∧ sLoseN (iu I (gs g) 3 0) (nI (g + 1)) 24 (pg q) 4 = 0 ∧ sLoseN (iu I (gs g) 3 0) (nI (g + 1)) 24 (pg q) 5 = 0) ∧
      (¬ (I (pg q) 1 = nI (g + 1) ∨ I (pg q) 3 = nI (g + 1)) → sLoseN (iu I (gs g) 3 0) (nI (g + 1)) 24 (pg q) 1 = I (pg q) 1 ∧ sLoseN (iu I (gs g) 3 0) (nI (g + 1)) 24 (pg q) 3 = I (pg q) 3 ∧ sLoseN (iu I (gs g) 3 0) (nI (g + 1)) 24 (pg q) 4 = I (pg q) 4 ∧ sLoseN (iu I (gs g) 3 0) (nI (g + 1)) 24 (pg q) 5 = I (pg q) 5) := by
  have e : iu I (gs g) 3 0 (2, q, 0) = I (2, q, 0) := iu_n _ _ _ (by simp)
  have := sLose_at (I := iu I (gs g) 3 0) (q := q) h0 h8
  rw [e] at this
  have f1 := sLoseN_lo (I := iu I (gs g) 3 0) (p := q) h0 h8 (Or.inl rfl : 1 = 1 ∨ _) 24 hq
  have f2 := sLoseN_lo (I := iu I (gs g) 3 0) (p := q) h0 h8 (Or.inr (Or.inl rfl) : 2 = 1 ∨ 2 = 2 ∨ _) 24 hq
  have f3 := sLoseN_lo (I := iu I (gs g) 3 0) (p := q) (f := 3) h0 h8 (by simp) 24 hq
  have f4 := sLoseN_lo (I := iu I (gs g) 3 0) (p := q) (f := 4) h0 h8 (by simp) 24 hq
  have f5 := sLoseN_lo (I := iu I (gs g) 3 0) (p := q) (f := 5) h0 h8 (by simp) 24 hq
  generalize sLoseN (iu I (gs g) 3 0) (nI (g + 1)) 24 = X at f1 f2 f3 f4 f5 ⊢
  rw [f1, f2, f3, f4, f5]
  exact this
theorem des_j3 {g q : Nat} (h5' : J (mb 5) q = 0 ∨ J (mb 5) q = 1) (hq : q < 24) : mLoseN (iu J (mb 8) (g + 1) 0) (nI (g + 1)) 24 (ma 3) q = (if J (ma 3) q = nI (g + 1) then 0 else J (ma 3) q) ∧
      ((J (ma 1) q = nI (g + 1) ∨ (J (ma 1) q = 7 ∧ J (ma 2) q = nI (g + 1))) → mLoseN (iu J (mb 8) (g + 1) 0) (nI (g + 1)) 24 (ma 1) q = 8 ∧ mLoseN (iu J (mb 8) (g + 1) 0) (nI (g + 1)) 24 (mb 5) q = 0 ∧ mLoseN (iu J (mb 8) (g + 1) 0) (nI (g + 1)) 24 (mb 6) q = 0) ∧
      (¬ (J (ma 1) q = nI (g + 1) ∨ (J (ma 1) q = 7 ∧ J (ma 2) q = nI (g + 1))) → mLoseN (iu J (mb 8) (g + 1) 0) (nI (g + 1)) 24 (ma 1) q = J (ma 1) q ∧ mLoseN (iu J (mb 8) (g + 1) 0) (nI (g + 1)) 24 (mb 5) q = J (mb 5) q ∧ mLoseN (iu J (mb 8) (g + 1) 0) (nI (g + 1)) 24 (mb 6) q = J (mb 6) q) := by
  have f1 : iu J (mb 8) (g + 1) 0 (ma 1) q = J (ma 1) q := by rw [iu_n _ _ _ (by simp)]
  have f2 : iu J (mb 8) (g + 1) 0 (ma 2) q = J (ma 2) q := by rw [iu_n _ _ _ (by simp)]
  have f3 : iu J (mb 8) (g + 1) 0 (ma 3) q = J (ma 3) q := by rw [iu_n _ _ _ (by simp)]
  have f5 : iu J (mb 8) (g + 1) 0 (mb 5) q = J (mb 5) q := by rw [iu_n _ _ _ (by simp)]
  have f6 : iu J (mb 8) (g + 1) 0 (mb 6) q = J (mb 6) q := by rw [iu_n _ _ _ (by simp)]
  have h5 : iu J (mb 8) (g + 1) 0 (mb 5) q = 0 ∨ iu J (mb 8) (g + 1) 0 (mb 5) q = 1 := by rw [f5]; exact h5'
  have := mLose_at (J := iu J (mb 8) (g + 1) 0) (a := nI (g + 1)) h5
  rw [f1, f2, f3, f5, f6] at this
  have e1 := mLoseN_lo (J := iu J (mb 8) (g + 1) 0) (a := nI (g + 1)) (n := ma 1) (by simp) h5 24 hq
  have e3 := mLoseN_lo (J := iu J (mb 8) (g + 1) 0) (a := nI (g + 1)) (n := ma 3) (by simp) h5 24 hq
  have e5 := mLoseN_lo (J := iu J (mb 8) (g + 1) 0) (a := nI (g + 1)) (n := mb 5) (by simp) h5 24 hq
  have e6 := mLoseN_lo (J := iu J (mb 8) (g + 1) 0) (a := nI (g + 1)) (n := mb 6) (by simp) h5 24 hq
  generalize mLoseN (iu J (mb 8) (g + 1) 0) (nI (g + 1)) 24 = X at e1 e3 e5 e6 ⊢
  rw [e1, e3, e5, e6]
  exact this
theorem sim_destroy (h : gR k I J P LG LP) (a : Int32) : (cDestroy I k LG a).1 = (mDestroy J a).1 ∧ gR k (cDestroy I k LG a).2 (mDestroy J a).2 P LG LP := by
  unfold cDestroy mDestroy
  cases hs : sLiv I k a with
  | none =>
    rw [if_pos (Or.inl (liv_none h.1 hs))]
    exact ⟨rfl, h⟩
  | some g =>
    obtain ⟨rfl, hl, hgst, hg⟩ := liv_some h.1 hs
    have hk := h.1.hk
    have hLG : (¬ J mo 13 < 0 ∧ J mo 13 / 2 = nI (g + 1)) ↔ LG = some g := by
      rcases h.1.ld with ⟨-, z, e⟩ | ⟨g', v, hl', hv, z, -, e⟩
      · rw [z, e]
        exact ⟨fun q => absurd m1_lt q.1, fun q => by cases q⟩
      · rw [z, e]
        have hg' := hl'.1
        rw [show (2 : Int32) = nI 2 from rfl, pk_div (by omega) (by omega) (by omega)]
        rw [show (2 * (g' + 1) + v) / 2 = g' + 1 by omega]
        constructor
        · rintro ⟨-, q⟩
          rw [nI_ginj (by omega) hg q]
        · intro q
          cases q
          exact ⟨nI_pos (by omega), rfl⟩
    show ((if LG = some g then (0, I) else (1, sLoseN (iu I (gs g) 3 0) (nI (g + 1)) 24)) : Int32 × gI).1 = _ ∧ gR k ((if LG = some g then (0, I) else (1, sLoseN (iu I (gs g) 3 0) (nI (g + 1)) 24)) : Int32 × gI).2 _ P LG LP
    by_cases c : LG = some g
    · rw [if_pos c, if_pos (Or.inr (hLG.mpr c))]
      exact ⟨rfl, h⟩
    · rw [if_neg c, if_neg (fun z => by rcases z with z | z; exact z hgst; exact c (hLG.mp z))]
      refine ⟨rfl, ?_⟩
      have h0 := nI_g0 hg
      have h8 := nI_gn8 hg
      have hix : ix (nI (g + 1)) = g + 1 := ix_nI (by omega)
      rw [hix]
      have j1 : ∀ (n : gN) f, ¬ (n = ma 1 ∨ n = ma 3 ∨ n = mb 5 ∨ n = mb 6) → ¬ (n = mb 8 ∧ f = g + 1) → mLoseN (iu J (mb 8) (g + 1) 0) (nI (g + 1)) 24 n f = J n f := fun n f n1 n2 => by
        rw [mLoseN_o n1, iu_at, if_neg n2]
      have j2 : mLoseN (iu J (mb 8) (g + 1) 0) (nI (g + 1)) 24 (mb 8) (g + 1) = 0 := by
        rw [mLoseN_o (by simp), iu_at, if_pos ⟨rfl, rfl⟩]
      have i1 : ∀ n : gN, ¬ n.1 = 2 → ¬ n = gs g → sLoseN (iu I (gs g) 3 0) (nI (g + 1)) 24 n = I n := fun n n1 n2 => by
        rw [sLoseN_n n1, iu_n _ _ _ n2]
      have hLd : Rld k (mLoseN (iu J (mb 8) (g + 1) 0) (nI (g + 1)) 24) LG LP := by
        rcases h.1.ld with ⟨z1, z2, e⟩ | ⟨g', v, hl', hv, z1, z2, e⟩
        · exact Or.inl ⟨z1, z2, (j1 _ _ (by simp) (by simp)).trans e⟩
        · have hn : ¬ g' = g := fun z => c (by rw [z1, z])
          exact Or.inr ⟨g', v, ⟨hl'.1, (j1 _ _ (by simp) (fun z => hn (by have := z.2; omega))).trans hl'.2⟩, hv, z1, z2, (j1 _ _ (by simp) (by simp)).trans e⟩
      have i2 : ∀ f, sLoseN (iu I (gs g) 3 0) (nI (g + 1)) 24 (gs g) f = if f = 3 then 0 else I (gs g) f := by
        intro f
        rw [sLoseN_n (by simp), iu_at]
        simp
      have hEnd : sLoseN (iu I (gs g) 3 0) (nI (g + 1)) 24 kp 5 = mLoseN (iu J (mb 8) (g + 1) 0) (nI (g + 1)) 24 mo 14 := by
        rw [i1 _ (by simp) (by simp), j1 _ _ (by simp) (by simp)]
        exact h.2
      have i3 := fun q (hq : q < 24) => des_i3 (I := I) (g := g) h0 h8 hq
      have j3 := fun q (hq : q < 24) => des_j3 (J := J) (g := g) (h.1.page hq).2.2.2.1 hq
      generalize sLoseN (iu I (gs g) 3 0) (nI (g + 1)) 24 = X at i1 i2 i3 hEnd ⊢
      generalize mLoseN (iu J (mb 8) (g + 1) 0) (nI (g + 1)) 24 = Y at j1 j2 j3 hLd hEnd ⊢
      exact ⟨des_core h.1 hl hLd i1 i2 i3 j1 j2 j3, hEnd⟩
end SIMH
