section SIMD
variable {k : Nat} {I J I' J' : gI} {P P' : gP} {LG : Option Nat} {LP : Option (Nat × Nat)} {q : Nat}
theorem sKeep_n {n : gN} {x : Int32} (h : ¬ n = (2, q, 0)) (h3 : ¬ n = (3, q, 0)) : sKeep I q x n = I n := by
  unfold sKeep
  rw [iu_n _ _ _ h, sOwn_n h, sWipe_n h3]
theorem sKeep_at {x : Int32} : sKeep I q x (2, q, 0) 1 = 7 ∧ sKeep I q x (2, q, 0) 2 = I (2, q, 0) 2 ∧ sKeep I q x (2, q, 0) 3 = x ∧ sKeep I q x (2, q, 0) 4 = 0 ∧ sKeep I q x (2, q, 0) 5 = 0 := by
  obtain ⟨o1, o2, o3, o4, o5⟩ := sOwn_at (I := sWipe I q) (q := q) (x := 7)
  unfold sKeep
  simp only [iu_at]
  refine ⟨?_, ?_, ?_, ?_, ?_⟩
  · simp; exact o1
  · simp; rw [o2, sWipe_n (by simp)]
  · simp
  · simp; exact o4
  · simp; rw [o5, if_neg (by decide)]
theorem sKeep_w {x : Int32} {j : Nat} (hj : j < 4) : sKeep I q x (3, q, 0) j = 0 := by
  unfold sKeep
  rw [iu_n _ _ _ (by simp), sOwn_n (by simp), sWipe_w hj]
theorem mKeep_ag {x : Int32} : AgJ q J (mKeep J q x) := by
  unfold mKeep mLook
  exact ((((AgJ.refl.iu (by simp)).iu (by simp)).wipe).iu (by simp))
theorem mKeep_at {x : Int32} (h5 : J (mb 5) q = 0) : mKeep J q x (ma 1) q = 7 ∧ mKeep J q x (ma 2) q = x ∧ mKeep J q x (ma 3) q = J (ma 3) q ∧ mKeep J q x (ma 4) q = J (ma 4) q ∧ mKeep J q x (mb 5) q = 0 ∧ mKeep J q x (mb 6) q = 0 ∧ ∀ j, j < 4 → mKeep J q x (ma 0) (4 * q + j) = 0 := by
  unfold mKeep mLook
  refine ⟨?_, ?_, ?_, ?_, ?_, ?_, fun j hj => ?_⟩
  · rw [iu_n _ _ _ (by simp), mWipe_n (by simp)]; simp [iu_at]
  · rw [iu_n _ _ _ (by simp), mWipe_n (by simp)]; simp [iu_at]
  · rw [iu_n _ _ _ (by simp), mWipe_n (by simp)]; simp [iu_at]
  · rw [iu_n _ _ _ (by simp), mWipe_n (by simp)]; simp [iu_at]
  · rw [iu_n _ _ _ (by simp), mWipe_n (by simp)]; simp [iu_at]; exact h5
  · rw [iu_at, if_pos ⟨rfl, rfl⟩]
    refine bz_f (fun z => ?_)
    rcases z.2 with y | y
    · rw [mWipe_n (by simp)] at y; simp [iu_at] at y
    · rw [mWipe_n (by simp)] at y; simp [iu_at] at y; exact y h5
  · rw [iu_n _ _ _ (by simp), mWipe_w hj]
theorem sim_feed (h : gR k I J P LG LP) (a x : Int32) : (cFeed I k P a x).1 = (mFeed J a x).1 ∧ gR k (cFeed I k P a x).2 (mFeed J a x).2 P LG LP := by
  unfold cFeed mFeed
  cases hs : sLiv I k a with
  | none =>
    rw [if_pos (liv_none h.1 hs)]
    exact ⟨rfl, h⟩
  | some g =>
    obtain ⟨rfl, hl, hg, hg6⟩ := liv_some h.1 hs
    rw [if_neg (fun z => z hg)]
    by_cases hf : sFree I x
    · have hf2 := (free_iff h.1 x).mp hf
      rw [if_neg (fun z => z hf2)]
      dsimp only
      rw [if_pos hf]
      obtain ⟨q, hq, rfl⟩ := isP_ix hf.1
      have hf3 := hf2.2
      rw [ix_nI (by omega)] at hf3 ⊢
      obtain ⟨w0, ⟨e1, e2, e4, e5⟩, w2, w5, w6, w7⟩ := h.1.page hq
      obtain ⟨h5, g0⟩ := free_page h.1 hq hf3.1 hf3.2
      obtain ⟨o1, o2, o3, o4, o5⟩ := sKeep_at (I := I) (q := q) (x := nI (g + 1))
      obtain ⟨j1, j2, j3, j4, j5, j6, j0⟩ := mKeep_at (x := nI (g + 1)) h5
      have aJ : AgJ q J (mKeep J q (nI (g + 1))) := mKeep_ag
      have g1 : mHolder (mKeep J q (nI (g + 1))) q = 0 := hol_0 (j3.trans hf3.2) j1 (Or.inr (by decide))
      have h8 : mKeep J q (nI (g + 1)) (mb 8) = J (mb 8) := aJ.r (by simp)
      have hgs5 : sKeep I q (nI (g + 1)) (gs g) 5 = I (gs g) 5 := by rw [sKeep_n (by simp) (by simp)]
      have hR : gR k (iu (sKeep I q (nI (g + 1))) (gs g) 5 (sKeep I q (nI (g + 1)) (gs g) 5 + 1)) (mKeep J q (nI (g + 1))) P LG LP := by
        refine gR_step h (q := q) (fun n h1 h2 h3 => by rw [iu_n _ _ _ (fun z => h3 (by rw [z])), sKeep_n h1 h2]) aJ ?_ (Or.inl g1) (fun g' hg' => ?_) h.1.hPl
        · refine ⟨fun j hj => ?_, ⟨?_, ?_, ?_, ?_⟩, Or.inr (Or.inl ⟨j1, j5, j3.trans hf3.2, ?_, g, ⟨hl.1, by rw [h8]; exact hl.2⟩, j2⟩), Or.inl j5, Or.inl j6, fun y => absurd j6 y⟩
          · rw [iu_n _ _ _ (by simp), sKeep_w hj, j0 j hj]
          · rw [iu_n _ _ _ (by simp)]; exact o1.trans j1.symm
          · rw [iu_n _ _ _ (by simp)]; exact o2.trans (e2.trans j3.symm)
          · rw [iu_n _ _ _ (by simp)]; exact o4.trans j5.symm
          · rw [iu_n _ _ _ (by simp)]; exact o5.trans j6.symm
          · rw [iu_n _ _ _ (by simp)]; exact o3.trans j2.symm
        · have hk := h.1.hk
          by_cases e : g' = g
          · subst e
            refine Rgu_step (by omega) (h.1.gu hg') hq aJ (by simp only [iu_at]; simp; rw [sKeep_n (by simp) (by simp)]) (by simp only [iu_at]; simp; rw [sKeep_n (by simp) (by simp)]) (by simp only [iu_at]; simp; rw [sKeep_n (by simp) (by simp)]) (fun _ v1 v2 => ⟨?_, plOK_same v2 (fun p a _ => mIs_other (q := q) (by rw [g0]; exact fun y => nI_g0 (by omega) y.symm) (by rw [g1]; exact fun y => nI_g0 (by omega) y.symm) (fun p hp => ⟨hol_cong (aJ.o hp).2.1 (aJ.o hp).2.2.2.1, (aJ.o hp).2.2.2.2.1⟩)) rfl⟩)
            have := mKept_upd (J' := mKeep J q (nI (g' + 1))) (J := J) hq (fun p hp => ⟨(aJ.o hp).2.1, (aJ.o hp).2.2.1⟩) (nI (g' + 1))
            rw [if_neg (fun y => by rw [hf3.1] at y; exact absurd y.1 (by decide)), if_pos ⟨j1, j2⟩] at this
            rw [show mKept (mKeep J q (nI (g' + 1))) (nI (g' + 1)) = mKept J (nI (g' + 1)) + 1 by omega, nI_succ (mKept J (nI (g' + 1))), ← v1, iu_at, if_pos ⟨rfl, rfl⟩, hgs5]
          · exact Rgu_off (by omega) (h.1.gu hg') hq aJ (by rw [iu_n _ _ _ (by simp [e]), sKeep_n (by simp) (by simp)]) (by rw [g0]; exact fun y => nI_g0 (by omega) y.symm) (by rw [g1]; exact fun y => nI_g0 (by omega) y.symm) (fun y => by rw [hf3.1] at y; exact absurd y.1 (by decide)) (fun y => e (nI_ginj (by omega) (by omega) (j2.symm.trans y.2)).symm) rfl
      exact ⟨pool_eq hR.1 ⟨hl.1, by rw [h8]; exact hl.2⟩, hR⟩
    · rw [if_pos (fun z => hf ((free_iff h.1 x).mpr z))]
      dsimp only
      rw [if_neg hf]
      exact ⟨rfl, h⟩
/-- the refusals are the same -/
theorem ref_eq (h : Rb k I J P LG LP) {g : Nat} (hl : liv J k g) (hg : mGst J (nI (g + 1))) (x y : Int32) : sRef I P g x y = mRef J (nI (g + 1)) x y := by
  have hk := h.hk
  have hgk := hl.1
  have m0 : ∀ {r : Int32}, (if ¬ mFree J x then -2 else if y < 0 ∨ 63 < y ∨ ¬ mHeld J (nI (g + 1)) y < 0 then -3 else if mCnt J (nI (g + 1)) y - mCnt J (nI (g + 1)) (-1) ≤ mRest J (nI (g + 1)) then 0 else -4) = r → mRef J (nI (g + 1)) x y = r := fun e => by
    rw [mRef, if_neg (fun z => z hg)]
    exact e
  by_cases hf : sFree I x
  · have hf2 := (free_iff h x).mp hf
    by_cases hy : y < 0 ∨ 64 ≤ y
    · have l : sRef I P g x y = -3 := by rw [sRef, if_neg (fun z => z hf), if_pos (hy.elim Or.inl (fun z => Or.inr (Or.inl z)))]
      have r : mRef J (nI (g + 1)) x y = -3 := m0 (by rw [if_neg (fun z => z hf2), if_pos (hy.elim Or.inl (fun z => Or.inr (Or.inl (by by_cases w : 63 < y; exact w; exact absurd z (i_le63.mpr w)))))])
      rw [l, r]
    · obtain ⟨b, hb, rfl⟩ := ix_lt 64 64 rfl (by decide) (fun z => hy (Or.inl z)) (fun z => hy (Or.inr z))
      have hpl := ((h.gu hgk).2.2.2.2 hl.2).2
      have hh := hpl.held hb
      have hib : ix (nI b) = b := ix_nI (by omega)
      cases hP : P g b with
      | none =>
        rw [hP] at hh
        have hh : mHeld J (nI (g + 1)) (nI b) = -1 := hh
        have n1 : ¬ (nI b < 0 ∨ 64 ≤ nI b ∨ ¬ P g (ix (nI b)) = none) := by
          rintro (z | z | z)
          · exact hy (Or.inl z)
          · exact hy (Or.inr z)
          · exact z (by rw [hib]; exact hP)
        have n2 : ¬ (nI b < 0 ∨ 63 < nI b ∨ ¬ mHeld J (nI (g + 1)) (nI b) < 0) := by
          rintro (z | z | z)
          · exact hy (Or.inl z)
          · exact i_le63.mp (fun w => hy (Or.inr w)) z
          · exact z (by rw [hh]; exact m1_lt)
        have c1 := cnt_new hpl (nI_g0 (by omega)) h.rng hb
        have c2 := pool_eq h hl
        by_cases z : sPool I P g < sNew P g b
        · have l : sRef I P g x (nI b) = -4 := by rw [sRef, if_neg (fun z => z hf), if_neg n1, hib, if_pos z]
          have r : mRef J (nI (g + 1)) x (nI b) = -4 := m0 (by rw [if_neg (fun z => z hf2), if_neg n2, c1, ← c2, if_neg (Int32.not_le.mpr z)])
          rw [l, r]
        · have l : sRef I P g x (nI b) = 0 := by rw [sRef, if_neg (fun z => z hf), if_neg n1, hib, if_neg z]
          have r : mRef J (nI (g + 1)) x (nI b) = 0 := m0 (by rw [if_neg (fun z => z hf2), if_neg n2, c1, ← c2, if_pos (Int32.not_lt.mp z)])
          rw [l, r]
      | some q =>
        rw [hP] at hh
        have hh : mHeld J (nI (g + 1)) (nI b) = nI q := hh
        have hq := h.hPl _ _ _ hP
        have l : sRef I P g x (nI b) = -3 := by rw [sRef, if_neg (fun z => z hf), if_pos (Or.inr (Or.inr (fun z => by rw [hib, hP] at z; cases z)))]
        have r : mRef J (nI (g + 1)) x (nI b) = -3 := m0 (by rw [if_neg (fun z => z hf2), if_pos (Or.inr (Or.inr (by rw [hh]; exact nI_pos (by omega))))])
        rw [l, r]
  · have l : sRef I P g x y = -2 := by rw [sRef, if_pos hf]
    have r : mRef J (nI (g + 1)) x y = -2 := m0 (by rw [if_pos (fun z => hf ((free_iff h x).mpr z))])
    rw [l, r]
theorem ref_le {J : gI} {a x y : Int32} : mRef J a x y < 0 ↔ ¬ mRef J a x y = 0 := by
  constructor
  · intro z e
    rw [e] at z
    exact absurd z (by decide)
  · intro z
    by_cases w : mRef J a x y < 0
    · exact w
    · exact absurd (mRef_nn w).2.2.2.2.2.2 z
theorem sim_lend (h : gR k I J P LG LP) (a x y : Int32) : (cLend I k P a x y).1 = (mLend J a x y).1 ∧ gR k (cLend I k P a x y).2.1 (mLend J a x y).2 (cLend I k P a x y).2.2 LG LP := by
  unfold cLend mLend
  have hk := h.1.hk
  cases hs : sLiv I k a with
  | none =>
    have e : mRef J a x y = -1 := by rw [mRef, if_pos (liv_none h.1 hs)]
    rw [e]
    exact ⟨rfl, h⟩
  | some g =>
    obtain ⟨rfl, hl, hg, hg6⟩ := liv_some h.1 hs
    have er := ref_eq h.1 hl hg x y
    dsimp only
    rw [← er]
    by_cases z : sRef I P g x y = 0
    · rw [if_pos z, if_pos z, z]
      obtain ⟨hf, hy0, hy1, hpn, -⟩ := sRef_0 z
      have hf2 := (free_iff h.1 x).mp hf
      obtain ⟨q, hq, rfl⟩ := isP_ix hf.1
      obtain ⟨b, hb, rfl⟩ := ix_lt 64 64 rfl (by decide) hy0 hy1
      have hf3 := hf2.2
      rw [ix_nI (by omega)] at hf3 hpn
      rw [ix_nI (show q < 2 ^ 31 by omega), ix_nI (show b < 2 ^ 31 by omega)]
      dsimp only
      obtain ⟨w0, ⟨e1, e2, e4, e5⟩, w2, w5, w6, w7⟩ := h.1.page hq
      obtain ⟨h5, g0⟩ := free_page h.1 hq hf3.1 hf3.2
      have hi3 : I (pg q) 3 = 0 := by
        rcases w2 with ⟨-, -, -, y⟩ | ⟨y, -⟩ | ⟨y, -⟩ | ⟨g', hl', y, -⟩
        · exact y
        · rw [hf3.1] at y; exact absurd y (by decide)
        · rw [hf3.1] at y; exact absurd y (by decide)
        · rw [hf3.1] at y
          have := hl'.1
          exact absurd y.symm (nI_g0 (by omega))
      have aJ : AgJ q J (iu (iu J (ma 3) q (nI (g + 1))) (ma 4) q (nI b)) := (AgJ.refl.iu (by simp)).iu (by simp)
      have h8 : iu (iu J (ma 3) q (nI (g + 1))) (ma 4) q (nI b) (mb 8) = J (mb 8) := aJ.r (by simp)
      have g1 : mHolder (iu (iu J (ma 3) q (nI (g + 1))) (ma 4) q (nI b)) q = nI (g + 1) := hol_lent (by omega) (by simp [iu_at])
      have j4 : iu (iu J (ma 3) q (nI (g + 1))) (ma 4) q (nI b) (ma 4) q = nI b := by simp [iu_at]
      have ho : ∀ p, p ≠ q → mHolder (iu (iu J (ma 3) q (nI (g + 1))) (ma 4) q (nI b)) p = mHolder J p ∧ iu (iu J (ma 3) q (nI (g + 1))) (ma 4) q (nI b) (ma 4) p = J (ma 4) p := fun p hp => ⟨hol_cong (aJ.o hp).2.1 (aJ.o hp).2.2.2.1, (aJ.o hp).2.2.2.2.1⟩
      refine ⟨rfl, gR_step h (q := q) (fun n h1 h2 h3 => by rw [iu_n _ _ _ h1]) aJ ?_ (Or.inr ⟨b, hb, j4⟩) (fun g' hg' => ?_) (fun g' a' q' hq' => ?_)⟩
      · refine ⟨fun j hj => by simp [iu_at]; exact w0 j hj, ⟨by simp [iu_at]; exact e1, by simp [iu_at], by simp [iu_at]; exact e4, by simp [iu_at]; exact e5⟩, Or.inl ⟨by simp [iu_at]; exact hf3.1, by simp [iu_at]; exact h5, Or.inr ⟨g, ⟨hl.1, by rw [h8]; exact hl.2⟩, by simp [iu_at]⟩, by simp [iu_at]; exact hi3⟩, by simp [iu_at]; exact w5, by simp [iu_at]; exact w6, ?_⟩
        simp only [mMay, iu_at] at w7 ⊢
        simpa using w7
      · by_cases e : g' = g
        · subst e
          refine Rgu_step (by omega) (h.1.gu hg') hq aJ (by simp [iu_at]) (by simp [iu_at]) (by simp [iu_at]) (fun _ v1 v2 => ⟨?_, plOK_add hq hb v2 (by rw [g0]; exact fun y => nI_g0 (by omega) y.symm) ho g1 j4 hpn⟩)
          have := mKept_upd (J' := iu (iu J (ma 3) q (nI (g' + 1))) (ma 4) q (nI b)) (J := J) hq (fun p hp => ⟨(aJ.o hp).2.1, (aJ.o hp).2.2.1⟩) (nI (g' + 1))
          rw [if_neg (fun y => by rw [hf3.1] at y; exact absurd y.1 (by decide)), if_neg (fun y => by simp [iu_at] at y; rw [hf3.1] at y; exact absurd y.1 (by decide))] at this
          rw [show mKept (iu (iu J (ma 3) q (nI (g' + 1))) (ma 4) q (nI b)) (nI (g' + 1)) = mKept J (nI (g' + 1)) by omega, ← v1]
          simp [iu_at]
        · exact Rgu_off (by omega) (h.1.gu hg') hq aJ (by rw [iu_n _ _ _ (by simp)]) (by rw [g0]; exact fun y => nI_g0 (by omega) y.symm) (by rw [g1]; exact fun y => e (nI_ginj (by omega) (by omega) y).symm) (fun y => by rw [hf3.1] at y; exact absurd y.1 (by decide)) (fun y => by simp [iu_at] at y; rw [hf3.1] at y; exact absurd y.1 (by decide)) (pu_n _ _ _ e)
      · rw [pu_at] at hq'
        split at hq'
        · cases hq'; exact hq
        · exact h.1.hPl _ _ _ hq'
    · rw [if_neg z, if_neg z]
      exact ⟨rfl, h⟩
end SIMD
