theorem i_le3 {y : Int32} : ¬ 4 ≤ y ↔ y ≤ 3 := by
  rw [Int32.le_iff_toInt_le, Int32.le_iff_toInt_le, show (4 : Int32).toInt = 4 from rfl, show (3 : Int32).toInt = 3 from rfl]
  omega
theorem i_le63 {y : Int32} : ¬ 64 ≤ y ↔ ¬ 63 < y := by
  rw [Int32.le_iff_toInt_le, Int32.lt_iff_toInt_lt, show (64 : Int32).toInt = 64 from rfl, show (63 : Int32).toInt = 63 from rfl]
  omega
theorem i_le1 {y : Int32} : ¬ 2 ≤ y ↔ y ≤ 1 := by
  rw [Int32.le_iff_toInt_le, Int32.le_iff_toInt_le, show (2 : Int32).toInt = 2 from rfl, show (1 : Int32).toInt = 1 from rfl]
  omega
theorem i_gt3 {y : Int32} : 3 < y ↔ 4 ≤ y := by
  rw [Int32.le_iff_toInt_le, Int32.lt_iff_toInt_lt, show (4 : Int32).toInt = 4 from rfl, show (3 : Int32).toInt = 3 from rfl]
  omega
theorem nI_g0 {g : Nat} (h : g < 6) : ¬ nI (g + 1) = 0 := nI_ne0 (by omega) (by omega)
theorem nI_gpos {g : Nat} (h : g < 6) : 0 < nI (g + 1) := nI_lt (a := 0) (by omega) (by omega)
theorem nI_ginj {g g' : Nat} (h : g < 6) (h' : g' < 6) (e : nI (g + 1) = nI (g' + 1)) : g = g' := by
  have := n32 (by omega) (by omega) e
  omega
theorem nI_gn7 {g : Nat} (h : g < 6) : ¬ nI (g + 1) = 7 := fun z => by
  have := n32 (b := 7) (by omega) (by decide) z
  omega
theorem nI_gn8 {g : Nat} (h : g < 6) : ¬ nI (g + 1) = 8 := fun z => by
  have := n32 (b := 8) (by omega) (by decide) z
  omega
section HOL
variable {J : gI} {q : Nat}
theorem hol_lent {g : Nat} (hg : g < 6) (h : J (ma 3) q = nI (g + 1)) : mHolder J q = nI (g + 1) := by
  rw [mHolder, h, if_neg (nI_nle (by omega) (by omega))]
theorem hol_0 {x : Int32} (h : J (ma 3) q = 0) (h1 : J (ma 1) q = x) (hx : x < 1 ∨ 6 < x) : mHolder J q = 0 := by
  rw [mHolder, h, h1, if_pos (by decide), if_pos hx]
theorem hol_own {g : Nat} (hg : g < 6) (h : J (ma 3) q = 0) (h1 : J (ma 1) q = nI (g + 1)) : mHolder J q = nI (g + 1) := by
  rw [mHolder, h, h1, if_pos (by decide), if_neg]
  intro z
  rcases z with z | z
  · exact nI_nlt (a := g + 1) (b := 1) (by omega) (by omega) z
  · exact nI_nlt (a := 6) (b := g + 1) (by omega) (by decide) z
end HOL
section SIMA
variable {k : Nat} {I J I' J' : gI} {P P' : gP} {LG : Option Nat} {LP : Option (Nat × Nat)}
theorem Rgu_same {g : Nat} (h : Rgu I J P g) (hI : I' (gs g) = I (gs g)) (h8 : J' (mb 8) = J (mb 8)) (h9 : J' (mb 9) = J (mb 9)) (m1 : J' (ma 1) = J (ma 1)) (m2 : J' (ma 2) = J (ma 2)) (m3 : J' (ma 3) = J (ma 3)) (m4 : J' (ma 4) = J (ma 4)) : Rgu I' J' P g := by
  simp only [Rgu, mKept, plOK, mIs, mHolder, hI, h8, h9, m1, m2, m3, m4] at h ⊢
  exact h
theorem Rb_page (h : Rb k I J P LG LP) {q : Nat} (a1 : ∀ p, p ≠ q → I' (pg p) = I (pg p) ∧ I' (wd p) = I (wd p)) (a2 : ∀ g v, I' (pr g v) = I (pr g v) ∧ I' (rg g v) = I (rg g v)) (a3 : I' hg = I hg ∧ I' kp 3 = I kp 3)
    (b1 : ∀ p, p ≠ q → (∀ j, j < 4 → J' (ma 0) (4 * p + j) = J (ma 0) (4 * p + j)) ∧ J' (ma 1) p = J (ma 1) p ∧ J' (ma 2) p = J (ma 2) p ∧ J' (ma 3) p = J (ma 3) p ∧ J' (ma 4) p = J (ma 4) p ∧ J' (mb 5) p = J (mb 5) p ∧ J' (mb 6) p = J (mb 6) p)
    (b2 : J' (mb 8) = J (mb 8) ∧ J' (mb 9) = J (mb 9) ∧ J' (ma 10) = J (ma 10) ∧ J' (ma 11) = J (ma 11) ∧ J' (ma 12) = J (ma 12) ∧ J' (ma 15) = J (ma 15) ∧ J' mo 7 = J mo 7 ∧ J' mo 13 = J mo 13)
    (c1 : I' kp 4 = J' mo 16) (c2 : Rpg k I' J' q) (c3 : mHolder J' q = 0 ∨ ∃ a, a < 64 ∧ J' (ma 4) q = nI a) (c4 : ∀ g, g < k → Rgu I' J' P' g) (c5 : ∀ g a q, P' g a = some q → q < 24) : Rb k I' J' P' LG LP := by
  obtain ⟨b8, b9, b10, b11, b12, b15, bm7, bm13⟩ := b2
  obtain ⟨⟨hk, hmk, hmd⟩, hpg, hrg, hgu, hpr, hfr, hld, hfl, hre, hPl⟩ := h
  refine ⟨⟨hk, a3.2.trans hmk, bm7.trans hmd⟩, fun p hp => ?_, fun p hp => ?_, c4, fun g hg v hv => ?_, ?_, ?_, c1, fun j hj => ?_, c5⟩
  · by_cases e : p = q
    · rw [e]; exact c2
    · obtain ⟨e1, e2⟩ := a1 p e
      obtain ⟨d0, d1, d2, d3, d4, d5, d6⟩ := b1 p e
      obtain ⟨w0, w1, w2, w3⟩ := hpg p hp
      refine ⟨fun j hj => ?_, ?_, ?_⟩
      · rw [e2, d0 j hj]; exact w0 j hj
      · rw [e1, d1, d3, d5, d6]; exact w1
      · simp only [Rkind, liv, mMay, e1, d1, d2, d3, d5, d6, b8] at w2 w3 ⊢
        exact ⟨w2, w3⟩
  · by_cases e : p = q
    · rw [e]; exact c3
    · obtain ⟨d0, d1, d2, d3, d4, d5, d6⟩ := b1 p e
      simp only [mHolder, d1, d3, d4]
      exact hrg p hp
  · obtain ⟨e1, e2⟩ := a2 g v
    have := hpr g hg v hv
    simp only [Rpr, ctOK, e1, e2, b10, b11, b12] at this ⊢
    exact this
  · simp only [Rfr, b9, b10, b11, b12] at hfr ⊢
    exact hfr
  · simp only [Rld, liv, b8, bm13] at hld ⊢
    exact hld
  · rw [a3.1, b15]; exact hre j hj
/-- living guests are the same on both sides -/
theorem liv_some (h : Rb k I J P LG LP) {a : Int32} {g : Nat} (hs : sLiv I k a = some g) : a = nI (g + 1) ∧ liv J k g ∧ mGst J a ∧ g < 6 := by
  have hk := h.hk
  have hmk := h.hmk
  have hmd := h.hmd
  unfold sLiv at hs
  by_cases h1 : a < 1 ∨ I kp 3 < a ∨ 6 < a
  · rw [if_pos h1] at hs; cases hs
  · rw [if_neg h1] at hs
    obtain ⟨j, hj, rfl⟩ := liv_ix (fun z => h1 (Or.inl z)) (Int32.not_lt.mp (fun z => h1 (Or.inr (Or.inr z))))
    have hix : ix (nI (j + 1) - 1) = j := by rw [nI_pred]; exact ix_nI (by omega)
    rw [hix] at hs
    by_cases h2 : j < k ∧ ¬ I (gs j) 3 = 0
    · rw [if_pos h2] at hs
      have hjg := Option.some.inj hs
      subst hjg
      obtain ⟨-, e3, e01, -, -⟩ := h.gu h2.1
      have hal : J (mb 8) (j + 1) = 1 := e01.resolve_left (fun z => h2.2 (e3.trans z))
      refine ⟨rfl, ⟨h2.1, hal⟩, ⟨fun z => h1 (Or.inl z), fun z => h1 (Or.inr (Or.inl (by rw [hmk, ← hmd]; exact z))), ?_⟩, hj⟩
      rw [ix_nI (by omega), hal]
      decide
    · rw [if_neg h2] at hs; cases hs
theorem liv_none (h : Rb k I J P LG LP) {a : Int32} (hs : sLiv I k a = none) : ¬ mGst J a := by
  rintro ⟨g1, g2, g3⟩
  have hk := h.hk
  have hmk := h.hmk
  have hmd : J (11, 0, 0) 7 = nI k := h.hmd
  have h0 : ¬ a < 0 := fun q => g1 (Int32.lt_of_lt_of_le q (by decide))
  obtain ⟨j, hj, rfl⟩ := ix_le k (nI k) rfl (by omega) h0 (Int32.not_lt.mp (by rw [← hmd]; exact g2))
  have hj0 : ¬ j = 0 := fun q => g1 (by rw [q]; decide)
  obtain ⟨g, rfl⟩ : ∃ g, j = g + 1 := ⟨j - 1, by omega⟩
  rw [ix_nI (by omega)] at g3
  have hix : ix (nI (g + 1) - 1) = g := by rw [nI_pred]; exact ix_nI (by omega)
  obtain ⟨-, e3, -⟩ := h.gu (show g < k by omega)
  unfold sLiv at hs
  rw [if_neg, hix, if_pos ⟨by omega, fun z => g3 (e3.symm.trans z)⟩] at hs
  · cases hs
  · rintro (z | z | z)
    · exact g1 z
    · exact g2 (by rw [show J mo 7 = I kp 3 from hmd.trans hmk.symm]; exact z)
    · exact nI_nlt (a := 6) (b := g + 1) (by omega) (by decide) z
theorem sim_owner (h : gR k I J P LG LP) (x : Int32) : cOwner I x = mOwner J x := by
  unfold cOwner mOwner
  by_cases hx : isP x
  · obtain ⟨j, hj, rfl⟩ := isP_ix hx
    rw [if_pos hx, if_pos hx, ix_nI (by omega)]
    exact (h.1.page hj).2.1.1
  · rw [if_neg hx, if_neg hx]
theorem lent_pos (h : Rb k I J P LG LP) {q : Nat} (hq : q < 24) : 0 < J (ma 3) q ↔ ¬ J (ma 3) q = 0 := by
  have hk := h.hk
  have key : J (ma 3) q = 0 ∨ ∃ g, liv J k g ∧ J (ma 3) q = nI (g + 1) := by
    rcases (h.page hq).2.2.1 with ⟨-, -, z, -⟩ | ⟨-, -, z, -⟩ | ⟨-, -, z, -⟩ | ⟨g, -, -, z, -⟩
    · exact z
    · exact Or.inl z
    · exact Or.inl z
    · exact Or.inl z
  rcases key with z | ⟨g, hg, z⟩
  · rw [z]; simp
  · rw [z]
    have := hg.1
    exact ⟨fun _ => nI_g0 (by omega), fun _ => nI_gpos (by omega)⟩
theorem sim_state (h : gR k I J P LG LP) (x : Int32) : cState I x = mState J x := by
  unfold cState mState
  by_cases hx : isP x
  · obtain ⟨j, hj, rfl⟩ := isP_ix hx
    rw [if_pos hx, if_pos hx, ix_nI (by omega)]
    obtain ⟨-, ⟨e1, e2, e4, e5⟩, -⟩ := h.1.page hj
    rw [e2, e4, e5]
    simp only [lent_pos h.1 hj]
    congr 1
    by_cases z1 : J (mb 5) j = 0 <;> by_cases z2 : J (ma 3) j = 0 <;> simp [z1, z2]
  · rw [if_neg hx, if_neg hx]
theorem tab_eq (h : Rb k I J P LG LP) {g : Nat} (hl : liv J k g) : sTab P g = mCnt J (nI (g + 1)) (-1) := by
  have hk := h.hk
  have hg := hl.1
  exact (cnt_tab ((h.gu hg).2.2.2.2 hl.2).2 (nI_g0 (by omega)) h.rng).symm
theorem pool_eq (h : Rb k I J P LG LP) {g : Nat} (hl : liv J k g) : sPool I P g = mRest J (nI (g + 1)) := by
  rw [sPool, mRest, tab_eq h hl, ← ((h.gu hl.1).2.2.2.2 hl.2).1, Int32.add_sub_cancel]
theorem sim_pool (h : gR k I J P LG LP) (a : Int32) : cPool I k P a = mPool J a := by
  unfold cPool mPool
  cases hs : sLiv I k a with
  | none => rw [if_neg (liv_none h.1 hs)]
  | some g =>
    obtain ⟨rfl, hl, hg, -⟩ := liv_some h.1 hs
    rw [if_pos hg]
    exact pool_eq h.1 hl
theorem sim_tab (h : gR k I J P LG LP) (a : Int32) : cTab I k P a = mTab J a := by
  unfold cTab mTab
  cases hs : sLiv I k a with
  | none => rw [if_neg (liv_none h.1 hs)]
  | some g =>
    obtain ⟨rfl, hl, hg, -⟩ := liv_some h.1 hs
    rw [if_pos hg]
    exact tab_eq h.1 hl
theorem ld_neg (h : Rb k I J P LG LP) : J mo 13 < 0 ↔ LP = none := by
  rcases h.ld with ⟨z, -, e⟩ | ⟨g, v, hl, hv, -, z, e⟩
  · rw [e, z]; exact ⟨fun _ => rfl, fun _ => m1_lt⟩
  · rw [e, z]
    have hk := h.hk
    have hg := hl.1
    exact ⟨fun q => absurd q (nI_pos (by omega)), fun q => by cases q⟩
theorem sim_reg (h : gR k I J P LG LP) (x : Int32) : cReg I LP x = mReg J x := by
  unfold cReg mReg
  by_cases hx : is4 x ∧ LP = none
  · obtain ⟨j, hj, rfl⟩ := is4_ix hx.1
    rw [if_pos hx, if_neg, ix_nI (by omega)]
    · exact h.1.reg j hj
    · rintro (z | z | z)
      · exact hx.1.1 z
      · exact hx.1.2 (i_gt3.mp z)
      · exact z ((ld_neg h.1).mpr hx.2)
  · rw [if_neg hx, if_pos]
    by_cases z1 : x < 0
    · exact Or.inl z1
    · by_cases z2 : 3 < x
      · exact Or.inr (Or.inl z2)
      · exact Or.inr (Or.inr (fun z3 => hx ⟨⟨z1, fun z => z2 (i_gt3.mpr z)⟩, (ld_neg h.1).mp z3⟩))
end SIMA
