section SIMF
variable {k : Nat} {I J I' J' : gI} {P P' : gP} {LG : Option Nat} {LP : Option (Nat × Nat)} {q : Nat}
theorem sim_load (h : gR k I J P LG LP) (a v : Int32) : (cLoad I k LG LP a v).1 = (mLoad J a v).1 ∧ gR k (cLoad I k LG LP a v).2.1 (mLoad J a v).2 P (cLoad I k LG LP a v).2.2.1 (cLoad I k LG LP a v).2.2.2 := by
  unfold cLoad mLoad
  have hk := h.1.hk
  have hld := ld_neg h.1
  cases LP with
  | some q =>
    rw [if_pos (Or.inl (Int32.not_lt.mp (fun z => by have := hld.mp z; cases this)))]
    exact ⟨rfl, h⟩
  | none =>
    have hneg : J (11, 0, 0) 13 < 0 := hld.mpr rfl
    have hn0 : ¬ 0 ≤ J (11, 0, 0) 13 := Int32.not_le.mpr hneg
    cases hs : sLiv I k a with
    | none =>
      rw [if_pos (Or.inr (Or.inl (liv_none h.1 hs)))]
      exact ⟨rfl, h⟩
    | some g =>
      obtain ⟨rfl, hl, hg, hg6⟩ := liv_some h.1 hs
      have hgk := hl.1
      dsimp only
      by_cases hv : v < 0 ∨ 2 ≤ v
      · rw [if_pos hv, if_pos (hv.elim (fun z => Or.inr (Or.inr (Or.inl z))) (fun z => Or.inr (Or.inr (Or.inr (fun y => absurd z (i_le1.mpr y))))))]
        exact ⟨rfl, h⟩
      · rw [if_neg hv, if_neg (by
          rintro (z | z | z | z)
          · exact hn0 z
          · exact z hg
          · exact hv (Or.inl z)
          · exact z (i_le1.mp (fun y => hv (Or.inr y))))]
        obtain ⟨w, hw, rfl⟩ := ix_lt 2 2 rfl (by decide) (fun z => hv (Or.inl z)) (fun z => hv (Or.inr z))
        rw [ix_nI (show w < 2 ^ 31 by omega), ix_nI (show g + 1 < 2 ^ 31 by omega)]
        dsimp only
        have e13 : (2 : Int32) * nI (g + 1) + nI w = nI (2 * (g + 1) + w) := by rw [show (2 : Int32) = nI 2 from rfl, pk_mul, nI_add]
        obtain ⟨⟨hk, hmk, hmd⟩, hpg, hrg, hgu, hpr, hfr, hld2, hfl, hre, hPl⟩ := h.1
        refine ⟨rfl, ⟨⟨hk, by simp [iu_at]; exact hmk, by simp [iu_at]; exact hmd⟩, fun q hq => ?_, ?_, fun g' hg' => ?_, fun g' hg' v' hv' => ?_, ?_, ?_, by simp [iu_at]; exact hfl, fun i hi => by simp [iu_at]; exact hre i hi, hPl⟩, by simp [iu_at]; exact h.2⟩
        · have := hpg q hq
          simp only [Rpg, Rkind, liv, mMay, iu_at] at this ⊢
          simpa using this
        · simp only [rngOK, mHolder, iu_at] at hrg ⊢
          simpa using hrg
        · obtain ⟨u0, u1, u2, u3, u4⟩ := hgu g' hg'
          refine ⟨by simp [iu_at]; exact u0, by simp [iu_at]; exact u1, by simp [iu_at]; exact u2, ?_, fun y => ?_⟩
          · rw [iu_at, iu_at]
            by_cases e : g' = g
            · simp [e]
            · have e2 : ¬ g' + 1 = g + 1 := by omega
              simp [e]
              rw [iu_at]
              simp
              exact u3
          · have y1 : J (mb 8) (g' + 1) = 1 := by simpa [iu_at] using y
            obtain ⟨v1, v2⟩ := u4 y1
            refine ⟨?_, ?_⟩
            · simp only [mKept, iu_at] at v1 ⊢
              simpa using v1
            · simp only [plOK, mIs, mHolder, iu_at] at v2 ⊢
              simpa using v2
        · have := hpr g' hg' v' hv'
          simp only [Rpr, ctOK, iu_at] at this ⊢
          simpa using this
        · intro g' h1 h2
          obtain ⟨r1, r2⟩ := hfr g' h1 h2
          have e2 : ¬ g' = g := by omega
          refine ⟨?_, ?_⟩
          · rw [iu_at]
            simp [e2]
            rw [iu_at]
            simp
            exact r1
          · simp only [iu_at]
            simpa using r2
        · exact Or.inr ⟨g, w, ⟨hgk, by simp [iu_at]; exact hl.2⟩, hw, rfl, rfl, by rw [iu_at]; simp; rw [iu_at]; simp; exact e13⟩
theorem sim_init : gR 0 (fun _ _ => 0) mJ0 (fun _ _ => none) none none := by
  have j0 : ∀ n f, ¬ n = (11, 0, 0) → mJ0 n f = 0 := fun n f hn => by simp [mJ0, hn]
  refine ⟨⟨⟨by omega, rfl, by simp [mJ0]; rfl⟩, fun q hq => ?_, fun q hq => Or.inl ?_, fun g hg => absurd hg (Nat.not_lt_zero _), fun g hg => absurd hg (Nat.not_lt_zero _), fun g _ _ => ⟨j0 _ _ (by simp), fun v _ => ⟨fun a _ => j0 _ _ (by simp), j0 _ _ (by simp), j0 _ _ (by simp)⟩⟩, Or.inl ⟨rfl, rfl, by simp [mJ0]⟩, by simp [mJ0], fun j _ => (j0 _ _ (by simp)).symm, fun g a q hq => by cases hq⟩, by simp [mJ0]⟩
  · have z1 := j0 (ma 1) q (by simp)
    have z3 := j0 (ma 3) q (by simp)
    have z5 := j0 (mb 5) q (by simp)
    have z6 := j0 (mb 6) q (by simp)
    exact ⟨fun j _ => (j0 _ _ (by simp)).symm, ⟨z1.symm, z3.symm, z5.symm, z6.symm⟩, Or.inl ⟨z1, z5, Or.inl z3, rfl⟩, Or.inl z5, Or.inl z6, fun y => absurd z6 y⟩
  · exact hol_0 (j0 _ _ (by simp)) (j0 _ _ (by simp)) (Or.inl (by decide))
/-- nobody's number but a living guest's stands at a page -/
theorem page_no (h : Rb k I J P LG LP) (hq : q < 24) {g : Nat} (hg : g < 6) (hn : ¬ liv J k g) : ¬ mHolder J q = nI (g + 1) ∧ ¬ (J (ma 1) q = 7 ∧ J (ma 2) q = nI (g + 1)) := by
  have hk := h.hk
  rcases (h.page hq).2.2.1 with ⟨y1, -, y3, -⟩ | ⟨y1, -, y3, -, g', hl, y2⟩ | ⟨y1, -, y3, -⟩ | ⟨g', hl, y1, y3, -⟩
  · refine ⟨?_, fun z => by rw [y1] at z; exact absurd z.1 (by decide)⟩
    rcases y3 with y3 | ⟨g', hl, y3⟩
    · rw [hol_0 y3 y1 (Or.inl (by decide))]; exact fun z => nI_g0 hg z.symm
    · have := hl.1
      rw [hol_lent (by omega) y3]
      exact fun z => hn (by rw [← nI_ginj (by omega) hg z]; exact hl)
  · have := hl.1
    refine ⟨by rw [hol_0 y3 y1 (Or.inr (by decide))]; exact fun z => nI_g0 hg z.symm, fun z => hn ?_⟩
    rw [← nI_ginj (by omega) hg (y2.symm.trans z.2)]
    exact hl
  · exact ⟨by rw [hol_0 y3 y1 (Or.inr (by decide))]; exact fun z => nI_g0 hg z.symm, fun z => by rw [y1] at z; exact absurd z.1 (by decide)⟩
  · have := hl.1
    refine ⟨by rw [hol_own (by omega) y3 y1]; exact fun z => hn (by rw [← nI_ginj (by omega) hg z]; exact hl), fun z => nI_gn7 (g := g') (by omega) (y1.symm.trans z.1)⟩
theorem cntB_zero {f : Nat → Bool} : ∀ n, (∀ i, i < n → f i = false) → cntB f n = 0
  | 0, _ => rfl
  | n + 1, h => by
    simp only [cntB, cntB_zero n (fun i hi => h i (by omega)), h n (by omega)]
    rfl
theorem Rkind_mono {p : Nat} (h : Rkind k I J p) (hm : ∀ g, liv J k g → liv J' (k + 1) g) (e3 : I' (pg p) 3 = I (pg p) 3) (d1 : J' (ma 1) p = J (ma 1) p) (d2 : J' (ma 2) p = J (ma 2) p) (d3 : J' (ma 3) p = J (ma 3) p) (d5 : J' (mb 5) p = J (mb 5) p) : Rkind (k + 1) I' J' p := by
  unfold Rkind
  rw [e3, d1, d2, d3, d5]
  rcases h with ⟨y1, y2, y3, y4⟩ | ⟨y1, y2, y3, y4, g, hl, y5⟩ | ⟨y1, y2, y3, y4⟩ | ⟨g, hl, y1, y2, y3⟩
  · refine Or.inl ⟨y1, y2, ?_, y4⟩
    rcases y3 with y3 | ⟨g, hl, y3⟩
    · exact Or.inl y3
    · exact Or.inr ⟨g, hm g hl, y3⟩
  · exact Or.inr (Or.inl ⟨y1, y2, y3, y4, g, hm g hl, y5⟩)
  · exact Or.inr (Or.inr (Or.inl ⟨y1, y2, y3, y4⟩))
  · exact Or.inr (Or.inr (Or.inr ⟨g, hm g hl, y1, y2, y3⟩))
theorem gNewI_o {x : Int32} {n : gN} (h : ¬ (6 ≤ n.1 ∧ n.1 ≤ 10 ∧ n.2.1 = k)) : gNewI I k x n = I n := if_neg h
theorem gNewI_k {x : Int32} {n : gN} (h : 6 ≤ n.1 ∧ n.1 ≤ 10 ∧ n.2.1 = k) : gNewI I k x n = gI0 x n := if_pos h
set_option maxHeartbeats 1000000 in
theorem cre_R (h : gR k I J P LG LP) (hk6 : k < 6) (hq : q < 24) (f1 : J (ma 1) q = 0) (f3 : J (ma 3) q = 0) : gR (k + 1) (sKeep (iu (gNewI I k (nI (k + 1))) kp 3 (nI (k + 1))) q (nI (k + 1))) (mKeep (iu (iu J mo 7 (nI (k + 1))) (mb 8) (k + 1) 1) q (nI (k + 1))) (cCreP P k) LG LP := by
  generalize hG : nI (k + 1) = G
  generalize hJ1 : iu (iu J mo 7 G) (mb 8) (k + 1) 1 = J1
  generalize hI1 : iu (gNewI I k G) kp 3 G = I1
  obtain ⟨⟨hk, hmk, hmd⟩, hpg, hrg, hgu, hpr, hfr, hld, hfl, hre, hPl⟩ := h.1
  obtain ⟨h5, g0⟩ := free_page h.1 hq f1 f3
  have J1n : ∀ n, ¬ n = mo → ¬ n = mb 8 → J1 n = J n := fun n h1 h2 => by rw [← hJ1, iu_n _ _ _ h2, iu_n _ _ _ h1]
  have J1m : ∀ f, ¬ f = 7 → J1 mo f = J mo f := fun f hf => by rw [← hJ1]; simp [iu_at, hf]
  have J18 : ∀ f, ¬ f = k + 1 → J1 (mb 8) f = J (mb 8) f := fun f hf => by rw [← hJ1]; simp [iu_at, hf]
  have J18k : J1 (mb 8) (k + 1) = 1 := by rw [← hJ1]; simp [iu_at]
  have I1o : ∀ n, ¬ n = kp → ¬ (6 ≤ n.1 ∧ n.1 ≤ 10 ∧ n.2.1 = k) → I1 n = I n := fun n h1 h2 => by rw [← hI1, iu_n _ _ _ h1, gNewI_o h2]
  have I1k : ∀ n, 6 ≤ n.1 ∧ n.1 ≤ 10 ∧ n.2.1 = k → I1 n = gI0 G n := fun n h2 => by rw [← hI1, iu_n _ _ _ (fun z => by rw [z] at h2; simp at h2), gNewI_k h2]
  have I1p : ∀ f, ¬ f = 3 → I1 kp f = I kp f := fun f hf => by rw [← hI1, iu_at, if_neg (fun z => hf z.2), gNewI_o (by simp)]
  have aJ : AgJ q J1 (mKeep J1 q G) := mKeep_ag
  obtain ⟨o1, o2, o3, o4, o5⟩ := sKeep_at (I := I1) (q := q) (x := G)
  obtain ⟨j1, j2, j3, j4, j5, j6, j0⟩ := mKeep_at (J := J1) (q := q) (x := G) (by rw [J1n _ (by simp) (by simp)]; exact h5)
  have k8 : mKeep J1 q G (mb 8) = J1 (mb 8) := aJ.r (by simp)
  have k9 : mKeep J1 q G (mb 9) = J (mb 9) := (aJ.r (by simp)).trans (J1n _ (by simp) (by simp))
  have kmo : mKeep J1 q G mo = J1 mo := aJ.r (by simp)
  have k10 : mKeep J1 q G (ma 10) = J (ma 10) := (aJ.r (by simp)).trans (J1n _ (by simp) (by simp))
  have k11 : mKeep J1 q G (ma 11) = J (ma 11) := (aJ.r (by simp)).trans (J1n _ (by simp) (by simp))
  have k12 : mKeep J1 q G (ma 12) = J (ma 12) := (aJ.r (by simp)).trans (J1n _ (by simp) (by simp))
  have k15 : mKeep J1 q G (ma 15) = J (ma 15) := (aJ.r (by simp)).trans (J1n _ (by simp) (by simp))
  have i2 : ∀ n, ¬ n = pg q → ¬ n = wd q → sKeep I1 q G n = I1 n := fun n h1 h2 => sKeep_n h1 h2
  have hm : ∀ g, liv J k g → liv (mKeep J1 q G) (k + 1) g := fun g hl => ⟨by have := hl.1; omega, by rw [k8, J18 _ (by have := hl.1; omega)]; exact hl.2⟩
  have jp : ∀ p, p ≠ q → (∀ j, j < 4 → mKeep J1 q G (ma 0) (4 * p + j) = J (ma 0) (4 * p + j)) ∧ mKeep J1 q G (ma 1) p = J (ma 1) p ∧ mKeep J1 q G (ma 2) p = J (ma 2) p ∧ mKeep J1 q G (ma 3) p = J (ma 3) p ∧ mKeep J1 q G (ma 4) p = J (ma 4) p ∧ mKeep J1 q G (mb 5) p = J (mb 5) p ∧ mKeep J1 q G (mb 6) p = J (mb 6) p := fun p hp => by
    obtain ⟨d0, d1, d2, d3, d4, d5, d6⟩ := aJ.o hp
    refine ⟨fun j hj => by rw [d0 j hj, J1n _ (by simp) (by simp)], by rw [d1, J1n _ (by simp) (by simp)], by rw [d2, J1n _ (by simp) (by simp)], by rw [d3, J1n _ (by simp) (by simp)], by rw [d4, J1n _ (by simp) (by simp)], by rw [d5, J1n _ (by simp) (by simp)], by rw [d6, J1n _ (by simp) (by simp)]⟩
  have g1 : mHolder (mKeep J1 q G) q = 0 := hol_0 (by rw [j3, J1n _ (by simp) (by simp)]; exact f3) j1 (Or.inr (by decide))
  have hol1 : ∀ p, mHolder J1 p = mHolder J p := fun p => hol_cong (by rw [J1n _ (by simp) (by simp)]) (by rw [J1n _ (by simp) (by simp)])
  refine ⟨⟨⟨by omega, ?_, ?_⟩, fun p hp => ?_, fun p hp => ?_, fun g hg => ?_, fun g hg v hv => ?_, ?_, ?_, ?_, fun j hj => ?_, fun g a q' hq' => ?_⟩, ?_⟩
  · rw [i2 _ (by simp) (by simp), ← hI1, iu_at, if_pos ⟨rfl, rfl⟩, hG]
  · rw [kmo, ← hJ1, hG]; simp [iu_at]
  · by_cases e : p = q
    · subst e
      refine ⟨fun j hj => by rw [sKeep_w hj, j0 j hj], ⟨o1.trans j1.symm, ?_, o4.trans j5.symm, o5.trans j6.symm⟩, Or.inr (Or.inl ⟨j1, j5, ?_, o3.trans j2.symm, k, ⟨by omega, by rw [k8]; exact J18k⟩, by rw [j2, hG]⟩), Or.inl j5, Or.inl j6, fun y => absurd j6 y⟩
      · rw [j3, J1n _ (by simp) (by simp)]
        refine o2.trans ?_
        rw [I1o _ (by simp) (by simp)]
        exact (hpg p hp).2.1.2.1
      · rw [j3, J1n _ (by simp) (by simp)]; exact f3
    · obtain ⟨d0, d1, d2, d3, d4, d5, d6⟩ := jp p e
      have ep : sKeep I1 q G (pg p) = I (pg p) := by rw [i2 _ (by simp [e]) (by simp), I1o _ (by simp) (by simp)]
      have ew : sKeep I1 q G (wd p) = I (wd p) := by rw [i2 _ (by simp) (by simp [e]), I1o _ (by simp) (by simp)]
      obtain ⟨w0, w1, w2, w5, w6, w7⟩ := hpg p hp
      refine ⟨fun j hj => by rw [ew, d0 j hj]; exact w0 j hj, by rw [ep, d1, d3, d5, d6]; exact w1, Rkind_mono w2 hm (by rw [ep]) d1 d2 d3 d5, by rw [d5]; exact w5, by rw [d6]; exact w6, ?_⟩
      rw [d6]
      unfold mMay
      rw [d1, d5]
      exact w7
  · by_cases e : p = q
    · subst e; exact Or.inl g1
    · obtain ⟨d0, d1, d2, d3, d4, d5, d6⟩ := jp p e
      rw [hol_cong d1 d3, d4]
      exact hrg p hp
  · by_cases e : g = k
    · subst e
      have egs : sKeep I1 q G (gs g) = gI0 G (gs g) := by rw [i2 _ (by simp) (by simp), I1k _ (by simp)]
      refine ⟨by rw [egs, hG]; simp [gI0], by rw [egs, k8, J18k]; simp [gI0], Or.inr (by rw [k8]; exact J18k), ?_, fun _ => ⟨?_, fun a ha p => ?_⟩⟩
      · rw [egs, k9, (hfr g (by omega) hk6).1]; simp [gI0]
      · rw [egs, hG]
        have hz : mKept J1 G = 0 := cntB_zero 24 (fun p hp => by
          have := (page_no h.1 hp hk6 (fun z => absurd z.1 (Nat.lt_irrefl _))).2
          rw [hG] at this
          rw [J1n _ (by simp) (by simp), J1n _ (by simp) (by simp)]
          exact decide_eq_false this)
        have := mKept_upd (J' := mKeep J1 q G) (J := J1) hq (fun p hp => ⟨(aJ.o hp).2.1, (aJ.o hp).2.2.1⟩) G
        rw [if_neg (fun y => by rw [J1n _ (by simp) (by simp), f1] at y; exact absurd y.1 (by decide)), if_pos ⟨j1, j2⟩, hz] at this
        rw [show mKept (mKeep J1 q G) G = 1 by omega]
        simp [gI0]
        rfl
      · simp only [cCreP, if_true]
        constructor
        · intro y; cases y
        · rintro ⟨y1, y2, -⟩
          rw [hG] at y2
          by_cases ep : p = q
          · subst ep
            rw [g1, ← hG] at y2
            exact absurd y2.symm (nI_g0 hk6)
          · obtain ⟨d0, d1, d2, d3, d4, d5, d6⟩ := jp p ep
            have := (page_no h.1 y1 hk6 (fun z => absurd z.1 (Nat.lt_irrefl _))).1
            rw [hG] at this
            exact absurd ((hol_cong d1 d3).symm.trans y2) this
    · have hgk : g < k := by omega
      have u : Rgu I1 J1 (cCreP P k) g := by
        obtain ⟨u0, u1, u2, u3, u4⟩ := hgu g hgk
        have e1 : I1 (gs g) = I (gs g) := I1o _ (by simp) (by simp [e])
        refine ⟨by rw [e1]; exact u0, by rw [e1, J18 _ (by omega)]; exact u1, by rw [J18 _ (by omega)]; exact u2, by rw [e1, J1n _ (by simp) (by simp)]; exact u3, fun y => ?_⟩
        rw [J18 _ (by omega)] at y
        obtain ⟨v1, v2⟩ := u4 y
        refine ⟨?_, plOK_same v2 (fun p a _ => by simp only [mIs, hol1, J1n (ma 4) (by simp) (by simp)]) (by simp [cCreP, e])⟩
        rw [e1, v1]
        simp only [mKept, J1n (ma 1) (by simp) (by simp), J1n (ma 2) (by simp) (by simp)]
      refine Rgu_off (by omega) u hq aJ (by rw [i2 _ (by simp) (by simp)]) (by rw [hol1, g0]; exact fun y => nI_g0 (by omega) y.symm) (by rw [g1]; exact fun y => nI_g0 (by omega) y.symm) (fun y => by rw [J1n _ (by simp) (by simp), f1] at y; exact absurd y.1 (by decide)) (fun y => ?_) rfl
      have := j2.symm.trans y.2
      rw [← hG] at this
      have := nI_ginj (by omega) (by omega) this
      omega
  · by_cases e : g = k
    · subst e
      have er : sKeep I1 q G (rg g v) = gI0 G (rg g v) := by rw [i2 _ (by simp) (by simp), I1k _ (by simp)]
      have ep : sKeep I1 q G (pr g v) = gI0 G (pr g v) := by rw [i2 _ (by simp) (by simp), I1k _ (by simp)]
      obtain ⟨r1, r2, r3⟩ := (hfr g (by omega) hk6).2 v hv
      refine ⟨fun a ha => by rw [er, k10, r1 a ha]; simp [gI0], by rw [ep, k11, r2]; simp [gI0], ⟨0, by omega, ?_⟩, Or.inl ⟨by rw [ep]; simp [gI0], by rw [k12]; exact r3⟩⟩
      show mKeep J1 q G (ma 11) (2 * (g + 1) + v) = nI 0
      rw [k11, r2]; rfl
    · have hgk : g < k := by omega
      have er : sKeep I1 q G (rg g v) = I (rg g v) := by rw [i2 _ (by simp) (by simp), I1o _ (by simp) (by simp [e])]
      have ep : sKeep I1 q G (pr g v) = I (pr g v) := by rw [i2 _ (by simp) (by simp), I1o _ (by simp) (by simp [e])]
      have := hpr g hgk v hv
      unfold Rpr ctOK at this ⊢
      rw [er, ep, k10, k12]
      rw [show mKeep J1 q G (12, 11, 0) = J (12, 11, 0) from k11]
      exact this
  · intro g h1 h2
    rw [k9, k10, k11, k12]
    exact hfr g (by omega) h2
  · rcases hld with ⟨y1, y2, y3⟩ | ⟨g, v, hl, hv, y1, y2, y3⟩
    · exact Or.inl ⟨y1, y2, by rw [kmo, J1m _ (by decide)]; exact y3⟩
    · exact Or.inr ⟨g, v, hm g hl, hv, y1, y2, by rw [kmo, J1m _ (by decide)]; exact y3⟩
  · rw [i2 _ (by simp) (by simp), kmo, J1m _ (by decide), I1p _ (by decide)]; exact hfl
  · rw [i2 _ (by simp) (by simp), k15, I1o _ (by simp) (by simp)]; exact hre j hj
  · unfold cCreP at hq'
    split at hq'
    · cases hq'
    · exact hPl _ _ _ hq'
  · rw [i2 _ (by simp) (by simp), kmo, J1m _ (by decide), I1p _ (by decide)]; exact h.2
theorem sim_create (h : gR k I J P LG LP) (x : Int32) {ad : gN → Nat} {r : Int32} {u : gT} (hc : cCre ad k I J P LG LP x r u) : ∃ ad2 k2 I2 P2, u = (ad2, k2, I2, J, P2, LG, LP) ∧ (∀ n, gD k n → ad2 n = ad n) ∧ r = (mCreate J x).1 ∧ gR k2 I2 (mCreate J x).2 P2 LG LP ∧ k ≤ 6 ∧ J mo 7 = nI k := by
  have hk := h.1.hk
  have hmk := h.1.hmk
  have hmd := h.1.hmd
  rcases hc with ⟨hf, rfl, rfl⟩ | ⟨hf, hm, rfl, rfl⟩ | ⟨hf, hm, rfl, ad2, hold, rfl⟩
  · have e : mCreate J x = (-1, J) := by rw [mCreate, if_pos (fun z => hf ((free_iff h.1 x).mpr z))]
    exact ⟨_, _, _, _, rfl, fun _ _ => rfl, by rw [e], by rw [e]; exact h, hk, hmd⟩
  · have e : mCreate J x = (-2, J) := by rw [mCreate, if_neg (fun z => z ((free_iff h.1 x).mp hf)), if_pos (by rw [hmd, ← hmk]; exact hm)]
    exact ⟨_, _, _, _, rfl, fun _ _ => rfl, by rw [e], by rw [e]; exact h, hk, hmd⟩
  · have hf2 := (free_iff h.1 x).mp hf
    have hk6 : k < 6 := (nI_ltI (by omega) (by decide)).mp (show nI k < nI 6 by rw [← hmk]; exact hm)
    have e : mCreate J x = (nI (k + 1), mKeep (iu (iu J mo 7 (nI (k + 1))) (mb 8) (k + 1) 1) (ix x) (nI (k + 1))) := by
      rw [mCreate, if_neg (fun z => z hf2), if_neg (fun z => z (by rw [hmd, ← hmk]; exact hm)), hmd, nI_1, ix_nI (show k + 1 < 2 ^ 31 by omega)]
    obtain ⟨q, hq, rfl⟩ := isP_ix hf.1
    have hf3 := hf2.2
    rw [ix_nI (by omega)] at hf3 e
    refine ⟨ad2, k + 1, _, _, rfl, hold, by rw [e], ?_, hk, hmd⟩
    rw [e, cCreI, ix_nI (by omega)]
    exact cre_R h hk6 hq hf3.1 hf3.2
end SIMF
