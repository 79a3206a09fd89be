section SIME
variable {k : Nat} {I J I' J' I0 J0 : gI} {P P' : gP} {LG : Option Nat} {LP : Option (Nat × Nat)} {q : Nat}
theorem host3 (h : Rb k I J P LG LP) (hq : q < 24) (h1 : J (ma 1) q = 0) : I (pg q) 3 = 0 := by
  have hk := h.hk
  rcases (h.page hq).2.2.1 with ⟨-, -, -, y⟩ | ⟨y, -⟩ | ⟨y, -⟩ | ⟨g', hl', y, -⟩
  · exact y
  · rw [h1] at y; exact absurd y (by decide)
  · rw [h1] at y; exact absurd y (by decide)
  · rw [h1] at y
    have := hl'.1
    exact absurd y.symm (nI_g0 (by omega))
/-- a free page is given to a guest -/
theorem don_R (h : gR k I J P LG LP) {g b : Nat} (hl : liv J k g) (hq : q < 24) (hb : b < 64) (f1 : J (ma 1) q = 0) (f3 : J (ma 3) q = 0) (hpn : P g b = none) (i1 : ∀ n, ¬ n = wd q → I0 n = I n) (iw : ∀ j, j < 4 → I0 (wd q) j = J0 (ma 0) (4 * q + j)) (aJ : AgJ q J J0) (j1 : J0 (ma 1) q = nI (g + 1)) (j3 : J0 (ma 3) q = 0) (j4 : J0 (ma 4) q = nI b) (j5 : J0 (mb 5) q = 0) : gR k (sOwn I0 q (nI (g + 1))) (mLook J0 q) (pu P g b (some q)) LG LP := by
  have hk := h.1.hk
  have hgk := hl.1
  obtain ⟨w0, ⟨e1, e2, e4, e5⟩, w2, w5, w6, w7⟩ := h.1.page hq
  obtain ⟨h5, g0⟩ := free_page h.1 hq f1 f3
  obtain ⟨o1, o2, o3, o4, o5⟩ := sOwn_at (I := I0) (q := q) (x := nI (g + 1))
  have aJ2 : AgJ q J (mLook J0 q) := aJ.iu (by simp)
  have l1 : mLook J0 q (ma 1) q = nI (g + 1) := by unfold mLook; rw [iu_n _ _ _ (by simp)]; exact j1
  have l3 : mLook J0 q (ma 3) q = 0 := by unfold mLook; rw [iu_n _ _ _ (by simp)]; exact j3
  have l4 : mLook J0 q (ma 4) q = nI b := by unfold mLook; rw [iu_n _ _ _ (by simp)]; exact j4
  have l5 : mLook J0 q (mb 5) q = 0 := by unfold mLook; rw [iu_n _ _ _ (by simp)]; exact j5
  have l6 : mLook J0 q (mb 6) q = 0 := by
    unfold mLook
    rw [iu_at, if_pos ⟨rfl, rfl⟩]
    refine bz_f (fun z => ?_)
    rcases z.2 with y | y
    · rw [j1] at y; exact nI_g0 (by omega) y
    · exact y j5
  have l0 : ∀ j, j < 4 → mLook J0 q (ma 0) (4 * q + j) = J0 (ma 0) (4 * q + j) := fun j _ => by unfold mLook; rw [iu_n _ _ _ (by simp)]
  have h8 : mLook J0 q (mb 8) = J (mb 8) := aJ2.r (by simp)
  have g1 : mHolder (mLook J0 q) q = nI (g + 1) := hol_own (by omega) l3 l1
  have ho : ∀ p, p ≠ q → mHolder (mLook J0 q) p = mHolder J p ∧ mLook J0 q (ma 4) p = J (ma 4) p := fun p hp => ⟨hol_cong (aJ2.o hp).2.1 (aJ2.o hp).2.2.2.1, (aJ2.o hp).2.2.2.2.1⟩
  have hgs : ∀ g', sOwn I0 q (nI (g + 1)) (gs g') = I (gs g') := fun g' => by rw [sOwn_n (by simp), i1 _ (by simp)]
  refine gR_step h (q := q) (fun n h1 h2 h3 => by rw [sOwn_n h1, i1 _ h2]) aJ2 ?_ (Or.inr ⟨b, hb, l4⟩) (fun g' hg' => ?_) (fun g' a' q' hq' => ?_)
  · refine ⟨fun j hj => by rw [sOwn_n (by simp), iw j hj, l0 j hj], ⟨o1.trans l1.symm, ?_, o4.trans l5.symm, ?_⟩, Or.inr (Or.inr (Or.inr ⟨g, ⟨hgk, by rw [h8]; exact hl.2⟩, l1, l3, o3⟩)), Or.inl l5, Or.inl l6, fun y => absurd l6 y⟩
    · refine o2.trans (Eq.trans ?_ l3.symm)
      rw [i1 _ (by simp)]
      exact e2.trans f3
    · rw [l6]
      exact o5.trans (if_neg (nI_g0 (by omega)))
  · by_cases e : g' = g
    · subst e
      refine Rgu_step (by omega) (h.1.gu hg') hq aJ2 (by rw [hgs]) (by rw [hgs]) (by rw [hgs]) (fun _ v1 v2 => ⟨?_, plOK_add hq hb v2 (by rw [g0]; exact fun y => nI_g0 (by omega) y.symm) ho g1 l4 hpn⟩)
      have := mKept_upd (J' := mLook J0 q) (J := J) hq (fun p hp => ⟨(aJ2.o hp).2.1, (aJ2.o hp).2.2.1⟩) (nI (g' + 1))
      rw [if_neg (fun y => by rw [f1] at y; exact absurd y.1 (by decide)), if_neg (fun y => nI_gn7 (by omega) (l1.symm.trans y.1))] at this
      rw [show mKept (mLook J0 q) (nI (g' + 1)) = mKept J (nI (g' + 1)) by omega, ← v1, hgs]
    · exact Rgu_off (by omega) (h.1.gu hg') hq aJ2 (hgs g') (by rw [g0]; exact fun y => nI_g0 (by omega) y.symm) (by rw [g1]; exact fun y => e (nI_ginj (by omega) (by omega) y).symm) (fun y => by rw [f1] at y; exact absurd y.1 (by decide)) (fun y => nI_gn7 (by omega) (l1.symm.trans y.1)) (pu_n _ _ _ e)
  · rw [pu_at] at hq'
    split at hq'
    · cases hq'; exact hq
    · exact h.1.hPl _ _ _ hq'
theorem sim_donate (h : gR k I J P LG LP) (a x y : Int32) : (cDonate I k P a x y).1 = (mDonate J a x y).1 ∧ gR k (cDonate I k P a x y).2.1 (mDonate J a x y).2 (cDonate I k P a x y).2.2 LG LP := by
  unfold cDonate mDonate
  have hk := h.1.hk
  cases hs : sLiv I k a with
  | none =>
    have e : mRef J a x y = -1 := by rw [mRef, if_pos (liv_none h.1 hs)]
    rw [if_pos (by rw [e]; exact m1_lt), e]
    exact ⟨rfl, h⟩
  | some g =>
    obtain ⟨rfl, hl, hg, hg6⟩ := liv_some h.1 hs
    have er := ref_eq h.1 hl hg x y
    have hgk := hl.1
    dsimp only
    by_cases z : sRef I P g x y = 0
    · have hnn : ¬ mRef J (nI (g + 1)) x y < 0 := by rw [← er, z]; decide
      rw [if_pos z, if_neg hnn]
      obtain ⟨hf, hy0, hy1, hpn, -⟩ := sRef_0 z
      have hf2 := (free_iff h.1 x).mp hf
      obtain ⟨q, hq, rfl⟩ := isP_ix hf.1
      obtain ⟨b, hb, rfl⟩ := ix_lt 64 64 rfl (by decide) hy0 hy1
      have hf3 := hf2.2
      rw [ix_nI (by omega)] at hf3 hpn
      rw [ix_nI (show q < 2 ^ 31 by omega), ix_nI (show b < 2 ^ 31 by omega), ix_nI (show g + 1 < 2 ^ 31 by omega)]
      dsimp only
      obtain ⟨h5, g0⟩ := free_page h.1 hq hf3.1 hf3.2
      have e4 : I (gs g) 4 = J (mb 9) (g + 1) := (h.1.gu hgk).2.2.2.1
      have d9 : mDon1 J (nI (g + 1)) q (nI b) (mb 9) (g + 1) = J (mb 9) (g + 1) := by simp [mDon1, iu_at]
      have aD : AgJ q J (mDon1 J (nI (g + 1)) q (nI b)) := ((AgJ.refl.iu (by simp)).iu (by simp)).iu (by simp)
      have d1 : mDon1 J (nI (g + 1)) q (nI b) (ma 1) q = nI (g + 1) := by simp [mDon1, iu_at]
      have d3 : mDon1 J (nI (g + 1)) q (nI b) (ma 3) q = 0 := by simp [mDon1, iu_at]; exact hf3.2
      have d4 : mDon1 J (nI (g + 1)) q (nI b) (ma 4) q = nI b := by simp [mDon1, iu_at]
      have d5 : mDon1 J (nI (g + 1)) q (nI b) (mb 5) q = 0 := by simp [mDon1, iu_at]
      by_cases w : J (mb 9) (g + 1) = 0
      · rw [if_pos (e4.trans w), if_pos (d9.trans w)]
        exact ⟨rfl, don_R h hl hq hb hf3.1 hf3.2 hpn (fun _ _ => rfl) (fun j hj => by rw [(h.1.page hq).1 j hj]; simp [mDon1, iu_at]) aD d1 d3 d4 d5⟩
      · rw [if_neg (fun z => w (e4.symm.trans z)), if_neg (fun z => w (d9.symm.trans z))]
        exact ⟨rfl, don_R h hl hq hb hf3.1 hf3.2 hpn (fun n hn => sWipe_n hn) (fun j hj => by rw [sWipe_w hj, mWipe_w hj]) aD.wipe (by rw [mWipe_n (by simp)]; exact d1) (by rw [mWipe_n (by simp)]; exact d3) (by rw [mWipe_n (by simp)]; exact d4) (by rw [mWipe_n (by simp)]; exact d5)⟩
    · rw [if_neg z, if_pos (ref_le.mpr (fun w => z (er.trans w)))]
      exact ⟨er, h⟩
theorem gst_of (h : Rb k I J P LG LP) {g : Nat} (hl : liv J k g) : sLiv I k (nI (g + 1)) = some g := by
  have hk := h.hk
  have hgk := hl.1
  have hmd : J (11, 0, 0) 7 = nI k := h.hmd
  have hg : mGst J (nI (g + 1)) := ⟨nI_nlt (a := g + 1) (b := 1) (by omega) (by omega), by rw [hmd]; exact nI_nlt (by omega) (by omega), by rw [ix_nI (by omega), hl.2]; decide⟩
  cases hs : sLiv I k (nI (g + 1)) with
  | none => exact absurd hg (liv_none h hs)
  | some g2 =>
    obtain ⟨e, -, -, h6⟩ := liv_some h hs
    rw [nI_ginj (by omega) h6 e]
theorem sim_take (h : gR k I J P LG LP) (x : Int32) : (cTake I k P x).1 = (mTake J x).1 ∧ gR k (cTake I k P x).2.1 (mTake J x).2 (cTake I k P x).2.2 LG LP := by
  unfold cTake mTake
  have hk := h.1.hk
  by_cases hx : isP x
  · obtain ⟨q, hq, rfl⟩ := isP_ix hx
    rw [ix_nI (by omega)]
    obtain ⟨w0, ⟨e1, e2, e4, e5⟩, w2, w5, w6, w7⟩ := h.1.page hq
    by_cases z : J (ma 3) q = 0
    · rw [if_neg (fun y => y.2 (e2.trans z)), if_neg (fun y => y.2 z)]
      exact ⟨rfl, h⟩
    · rw [if_pos ⟨hx, fun y => z (e2.symm.trans y)⟩, if_pos ⟨hx, z⟩]
      obtain ⟨f1, f5, g, hl, f3, fk⟩ : J (ma 1) q = 0 ∧ J (mb 5) q = 0 ∧ ∃ g, liv J k g ∧ J (ma 3) q = nI (g + 1) ∧ I (pg q) 3 = 0 := by
        rcases w2 with ⟨y1, y2, y3, y4⟩ | ⟨-, -, y, -⟩ | ⟨-, -, y, -⟩ | ⟨g', -, -, y, -⟩
        · obtain ⟨g, hl, y⟩ := y3.resolve_left z
          exact ⟨y1, y2, g, hl, y, y4⟩
        · exact absurd y z
        · exact absurd y z
        · exact absurd y z
      have hgk := hl.1
      rw [e2.trans f3, gst_of h.1 hl]
      dsimp only
      have aJ : AgJ q J (iu J (ma 3) q 0) := AgJ.refl.iu (by simp)
      have h8 : iu J (ma 3) q 0 (mb 8) = J (mb 8) := aJ.r (by simp)
      have g0 : mHolder J q = nI (g + 1) := hol_lent (by omega) f3
      have g1 : mHolder (iu J (ma 3) q 0) q = 0 := hol_0 (by simp [iu_at]) (x := 0) (by simp [iu_at]; exact f1) (Or.inl (by decide))
      have ho : ∀ p, p ≠ q → mHolder (iu J (ma 3) q 0) p = mHolder J p ∧ iu J (ma 3) q 0 (ma 4) p = J (ma 4) p := fun p hp => ⟨hol_cong (aJ.o hp).2.1 (aJ.o hp).2.2.2.1, (aJ.o hp).2.2.2.2.1⟩
      refine ⟨rfl, gR_step h (q := q) (fun n h1 h2 h3 => by rw [iu_n _ _ _ h1]) aJ ?_ (Or.inl g1) (fun g' hg' => ?_) (fun g' a' q' hq' => ?_)⟩
      · refine ⟨fun j hj => by simp [iu_at]; exact w0 j hj, ⟨by simp [iu_at]; exact e1, by simp [iu_at], by simp [iu_at]; exact e4, by simp [iu_at]; exact e5⟩, Or.inl ⟨by simp [iu_at]; exact f1, by simp [iu_at]; exact f5, Or.inl (by simp [iu_at]), by simp [iu_at]; exact fk⟩, by simp [iu_at]; exact w5, by simp [iu_at]; exact w6, ?_⟩
        simp only [mMay, iu_at] at w7 ⊢
        simpa using w7
      · by_cases e : g' = g
        · subst e
          refine Rgu_step (by omega) (h.1.gu hg') hq aJ (by simp [iu_at]) (by simp [iu_at]) (by simp [iu_at]) (fun _ v1 v2 => ⟨?_, fun a ha p => ?_⟩)
          · have := mKept_upd (J' := iu J (ma 3) q 0) (J := J) hq (fun p hp => ⟨(aJ.o hp).2.1, (aJ.o hp).2.2.1⟩) (nI (g' + 1))
            rw [if_neg (fun y => by rw [f1] at y; exact absurd y.1 (by decide)), if_neg (fun y => by simp [iu_at] at y; rw [f1] at y; exact absurd y.1 (by decide))] at this
            rw [show mKept (iu J (ma 3) q 0) (nI (g' + 1)) = mKept J (nI (g' + 1)) by omega, ← v1]
            simp [iu_at]
          · unfold sRem
            by_cases ep : P g' a = some q
            · rw [if_pos ⟨rfl, ha, ep⟩]
              constructor
              · intro y; cases y
              · rintro ⟨y1, y2, y3⟩
                by_cases epq : p = q
                · rw [epq, g1] at y2
                  exact absurd y2.symm (nI_g0 (by omega))
                · obtain ⟨o1, o2⟩ := ho p epq
                  have := (v2 a ha p).mpr ⟨y1, o1.symm.trans y2, o2.symm.trans y3⟩
                  rw [ep] at this
                  exact absurd (Option.some.inj this).symm epq
            · rw [if_neg (fun y => ep y.2.2), v2 a ha p]
              by_cases epq : p = q
              · subst epq
                constructor
                · rintro ⟨y1, y2⟩
                  exact absurd ((v2 a ha p).mpr ⟨y1, y2⟩) ep
                · rintro ⟨y1, y2, y3⟩
                  rw [g1] at y2
                  exact absurd y2.symm (nI_g0 (by omega))
              · obtain ⟨o1, o2⟩ := ho p epq
                simp only [mIs, o1, o2]
        · exact Rgu_off (by omega) (h.1.gu hg') hq aJ (by rw [iu_n _ _ _ (by simp)]) (by rw [g0]; exact fun y => e (nI_ginj (by omega) (by omega) y).symm) (by rw [g1]; exact fun y => nI_g0 (by omega) y.symm) (fun y => by rw [f1] at y; exact absurd y.1 (by decide)) (fun y => by simp [iu_at] at y; rw [f1] at y; exact absurd y.1 (by decide)) (by funext a; unfold sRem; rw [if_neg (fun y => e y.1)])
      · unfold sRem at hq'
        split at hq'
        · cases hq'
        · exact h.1.hPl _ _ _ hq'
  · rw [if_neg (fun y => hx y.1), if_neg (fun y => hx y.1)]
    exact ⟨rfl, h⟩
end SIME
