section SIMB
variable {k : Nat} {I J I' J' : gI} {P P' : gP} {LG : Option Nat} {LP : Option (Nat × Nat)}
theorem sim_set (h : gR k I J P LG LP) (x y : Int32) : (cSet I LP x y).1 = (mSet J x y).1 ∧ gR k (cSet I LP x y).2 (mSet J x y).2 P LG LP := by
  unfold cSet mSet
  by_cases hx : is4 x ∧ LP = none
  · obtain ⟨j, hj, rfl⟩ := is4_ix hx.1
    rw [if_pos hx, if_neg, ix_nI (by omega)]
    · refine ⟨rfl, ?_, by simp [iu_at]; exact h.2⟩
      obtain ⟨⟨hk, hmk, hmd⟩, hpg, hrg, hgu, hpr, hfr, hld, hfl, hre, hPl⟩ := h.1
      refine ⟨⟨hk, by simp [iu_at]; exact hmk, by simp [iu_at]; exact hmd⟩, fun q hq => ?_, ?_, fun g hg => ?_, fun g hg v hv => ?_, ?_, ?_, by simp [iu_at]; exact hfl, fun i hi => ?_, hPl⟩
      · have := hpg q hq
        simp only [Rpg, Rkind, liv, mMay, iu_at] at this ⊢
        simpa using this
      · simp only [rngOK, mHolder, iu_at] at hrg ⊢
        simpa using hrg
      · exact Rgu_same (hgu g hg) (by simp [iu]) (by simp [iu]) (by simp [iu]) (by simp [iu]) (by simp [iu]) (by simp [iu]) (by simp [iu])
      · have := hpr g hg v hv
        simp only [Rpr, ctOK, iu_at] at this ⊢
        simpa using this
      · simp only [Rfr, iu_at] at hfr ⊢
        simpa using hfr
      · simp only [Rld, liv, iu_at] at hld ⊢
        simpa using hld
      · show iu I hg j y hg i = iu J (ma 15) j y (ma 15) i
        rw [iu_at, iu_at]
        by_cases e : i = j
        · simp [e]
        · simp [e]; exact hre i hi
    · rintro (z | z | z)
      · exact hx.1.1 z
      · exact hx.1.2 (i_gt3.mp z)
      · exact z ((ld_neg h.1).mpr hx.2)
  · rw [if_neg hx, if_pos]
    · exact ⟨rfl, h⟩
    · by_cases z1 : x < 0
      · exact Or.inl z1
      · by_cases z2 : 3 < x
        · exact Or.inr (Or.inl z2)
        · exact Or.inr (Or.inr (fun z3 => hx ⟨⟨z1, fun z => z2 (i_gt3.mpr z)⟩, (ld_neg h.1).mp z3⟩))
theorem sim_put (h : gR k I J P LG LP) : bz (¬ LP = none) = (mPut J).1 ∧ gR k I (mPut J).2 P (if LP = none then LG else none) none := by
  have hl := ld_neg h.1
  refine ⟨?_, ?_, by simp [mPut, iu_at]; exact h.2⟩
  · by_cases z : LP = none
    · have z1 : J (11, 0, 0) 13 < 0 := hl.mpr z
      simp [bz, mPut, z, z1]
    · have z1 : ¬ J (11, 0, 0) 13 < 0 := fun q => z (hl.mp q)
      simp only [bz, mPut, z, z1, not_false_eq_true, if_true, if_false]
  · obtain ⟨⟨hk, hmk, hmd⟩, hpg, hrg, hgu, hpr, hfr, hld, hfl, hre, hPl⟩ := h.1
    have hLG : (if LP = none then LG else none) = none := by
      rcases hld with ⟨z, z1, -⟩ | ⟨g, v, -, -, z1, z, -⟩
      · rw [z, z1]; rfl
      · rw [z]; rfl
    refine ⟨⟨hk, hmk, by simp [mPut, iu_at]; exact hmd⟩, fun q hq => ?_, ?_, fun g hg => ?_, fun g hg v hv => ?_, ?_, Or.inl ⟨rfl, hLG, by simp [mPut, iu_at]⟩, by simp [mPut, iu_at]; exact hfl, fun i hi => by simp [mPut, iu_at]; exact hre i hi, hPl⟩
    · have := hpg q hq
      simp only [Rpg, Rkind, liv, mMay, mPut, iu_at] at this ⊢
      simpa using this
    · simp only [rngOK, mHolder, mPut, iu_at] at hrg ⊢
      simpa using hrg
    · exact Rgu_same (hgu g hg) rfl (by simp [mPut, iu]) (by simp [mPut, iu]) (by simp [mPut, iu]) (by simp [mPut, iu]) (by simp [mPut, iu]) (by simp [mPut, iu])
    · have := hpr g hg v hv
      simp only [Rpr, ctOK, mPut, iu_at] at this ⊢
      simpa using this
    · simp only [Rfr, mPut, iu_at] at hfr ⊢
      simpa using hfr
/-- a page is touched -/
theorem touch_R (h : gR k I J P LG LP) {q : Nat} (hq : q < 24) : gR k (sRch I q) (mTch J q) P LG LP ∧ (sRchB I q ↔ ¬ mTch J q (mb 6) q = 0) := by
  obtain ⟨w0, ⟨e1, e2, e4, e5⟩, w2, w5, w6, w7⟩ := h.1.page hq
  unfold sRch mTch
  by_cases z : J (mb 6) q = 0
  · have z5 : I (pg q) 5 = 0 := e5.trans z
    rw [if_pos z5, if_pos z]
    have hop : sOpen (sFlt I) q ↔ mMay (iu J mo 16 (J mo 16 + 1)) q := by
      simp only [sOpen, sFlt, mMay, iu_at]
      simp
      rw [e1, e4]
    have hm : mMay (iu J mo 16 (J mo 16 + 1)) q ↔ mMay J q := by simp [mMay, iu_at]
    have hbz : bz (sOpen (sFlt I) q) = bz (mMay (iu J mo 16 (J mo 16 + 1)) q) := bz_iff hop
    refine ⟨⟨?_, by simp [iu_at]; exact h.2⟩, ?_⟩
    · refine Rb_page h.1 (q := q) (fun p hp => ⟨by simp [iu, hp], by simp [iu]⟩) (fun g v => ⟨by simp [iu], by simp [iu]⟩) ⟨by simp [iu], by simp [iu_at]⟩
        (fun p hp => ⟨fun j _ => by simp [iu_at], by simp [iu_at], by simp [iu_at], by simp [iu_at], by simp [iu_at], by simp [iu_at], by simp [iu_at, hp]⟩)
        ⟨by simp [iu], by simp [iu], by simp [iu], by simp [iu], by simp [iu], by simp [iu], by simp [iu_at], by simp [iu_at]⟩ (by simp [iu_at]; exact h.1.flt) ?_ ?_ (fun g hg => ?_) h.1.hPl
      · refine ⟨fun j hj => by simp [iu_at]; exact w0 j hj, ?_, ?_, ?_, ?_, ?_⟩
        · refine ⟨by simp [iu_at]; exact e1, by simp [iu_at]; exact e2, by simp [iu_at]; exact e4, ?_⟩
          rw [iu_at, iu_at, if_pos ⟨rfl, rfl⟩, if_pos ⟨rfl, rfl⟩]
          exact hbz
        · simp only [Rkind, liv, iu_at] at w2 ⊢
          simpa using w2
        · simp [iu_at]; exact w5
        · rw [iu_at, if_pos ⟨rfl, rfl⟩]; exact bz_01 _
        · rw [iu_at, if_pos ⟨rfl, rfl⟩]
          intro z9
          have : mMay J q := hm.mp (by by_cases y : mMay (iu J mo 16 (J mo 16 + 1)) q; exact y; exact absurd (bz_f y) z9)
          simp only [mMay, iu_at] at this ⊢
          simpa using this
      · have := h.1.rng q hq
        simp only [mHolder, iu_at] at this ⊢
        simpa using this
      · exact Rgu_same (h.1.gu hg) (by simp [iu]) (by simp [iu]) (by simp [iu]) (by simp [iu]) (by simp [iu]) (by simp [iu]) (by simp [iu])
    · rw [iu_at, if_pos ⟨rfl, rfl⟩]
      constructor
      · rintro (y | y)
        · exact absurd z5 y
        · rw [bz_t (hop.mp y)]; decide
      · intro y
        exact Or.inr (hop.mpr (by by_cases y2 : mMay (iu J mo 16 (J mo 16 + 1)) q; exact y2; exact absurd (bz_f y2) y))
  · have z5 : ¬ I (pg q) 5 = 0 := fun y => z (e5.symm.trans y)
    rw [if_neg z5, if_neg z]
    exact ⟨h, ⟨fun _ => z, fun _ => Or.inl z5⟩⟩
theorem ok_iff {x y : Int32} : mOk x y ↔ (isP x ∧ is4 y) := ⟨fun h => ⟨h.1, h.2.1, i_le3.mpr h.2.2⟩, fun h => ⟨h.1, h.2.1, i_le3.mp h.2.2⟩⟩
theorem sim_read (h : gR k I J P LG LP) (x y : Int32) : (cRead I x y).1 = (mRead J x y).1 ∧ gR k (cRead I x y).2 (mRead J x y).2 P LG LP := by
  unfold cRead mRead mTouch
  by_cases hx : isP x ∧ is4 y
  · obtain ⟨j, hj, rfl⟩ := isP_ix hx.1
    obtain ⟨i, hi, rfl⟩ := is4_ix hx.2
    obtain ⟨hR, hb⟩ := touch_R h hj
    rw [if_pos hx, if_pos (ok_iff.mpr hx), ix_nI (show j < 2 ^ 31 by omega), ix_nI (show i < 2 ^ 31 by omega)]
    dsimp only
    by_cases z : sRchB I j
    · rw [if_pos z, if_neg (hb.mp z)]
      exact ⟨by rw [(hR.1.page hj).1 i hi], hR⟩
    · have z2 : mTch J j (mb 6) j = 0 := by
        by_cases y : mTch J j (mb 6) j = 0
        · exact y
        · exact absurd (hb.mpr y) z
      rw [if_neg z, if_pos z2]
      exact ⟨rfl, hR⟩
  · rw [if_neg hx, if_neg (fun z => hx (ok_iff.mp z)), if_pos rfl]
    exact ⟨rfl, h⟩
/-- a word of a page -/
theorem word_R (h : gR k I J P LG LP) {q i : Nat} (hq : q < 24) (hi : i < 4) (z : Int32) : gR k (iu I (wd q) i z) (iu J (ma 0) (4 * q + i) z) P LG LP := by
  obtain ⟨w0, w1, w2, w5, w6, w7⟩ := h.1.page hq
  refine ⟨?_, by simp [iu_at]; exact h.2⟩
  refine Rb_page h.1 (q := q) (fun p hp => ⟨by simp [iu], by simp [iu, hp]⟩) (fun g v => ⟨by simp [iu], by simp [iu]⟩) ⟨by simp [iu], by simp [iu_at]⟩
    (fun p hp => ⟨fun j hj => ?_, by simp [iu_at], by simp [iu_at], by simp [iu_at], by simp [iu_at], by simp [iu_at], by simp [iu_at]⟩)
    ⟨by simp [iu], by simp [iu], by simp [iu], by simp [iu], by simp [iu], by simp [iu], by simp [iu_at], by simp [iu_at]⟩ (by simp [iu_at]; exact h.1.flt) ?_ ?_ (fun g hg => ?_) h.1.hPl
  · rw [iu_at, if_neg (fun y => by have := y.2; omega)]
  · refine ⟨fun j hj => ?_, ?_, ?_, ?_, ?_, ?_⟩
    · rw [iu_at, iu_at]
      by_cases e : j = i
      · simp [e]
      · have : ¬ 4 * q + j = 4 * q + i := by omega
        simp [e, this]; exact w0 j hj
    · simp only [iu_at]; simpa using w1
    · simp only [Rkind, liv, iu_at] at w2 ⊢
      simpa using w2
    · simp [iu_at]; exact w5
    · simp [iu_at]; exact w6
    · simp only [mMay, iu_at] at w7 ⊢
      simpa using w7
  · have := h.1.rng q hq
    simp only [mHolder, iu_at] at this ⊢
    simpa using this
  · exact Rgu_same (h.1.gu hg) (by simp [iu]) (by simp [iu]) (by simp [iu]) (by simp [iu]) (by simp [iu]) (by simp [iu]) (by simp [iu])
theorem sim_write (h : gR k I J P LG LP) (x y z : Int32) : (cWrite I x y z).1 = (mWrite J x y z).1 ∧ gR k (cWrite I x y z).2 (mWrite J x y z).2 P LG LP := by
  unfold cWrite mWrite mTouch
  by_cases hx : isP x ∧ is4 y
  · obtain ⟨j, hj, rfl⟩ := isP_ix hx.1
    obtain ⟨i, hi, rfl⟩ := is4_ix hx.2
    obtain ⟨hR, hb⟩ := touch_R h hj
    rw [if_pos hx, if_pos (ok_iff.mpr hx), ix_nI (show j < 2 ^ 31 by omega), ix_nI (show i < 2 ^ 31 by omega)]
    dsimp only
    by_cases y2 : sRchB I j
    · rw [if_pos y2, if_neg (hb.mp y2)]
      exact ⟨((hR.1.h01 j hj).resolve_left (hb.mp y2)).symm, word_R hR hj hi z⟩
    · have z2 : mTch J j (mb 6) j = 0 := by
        by_cases y : mTch J j (mb 6) j = 0
        · exact y
        · exact absurd (hb.mpr y) y2
      rw [if_neg y2, if_pos z2]
      exact ⟨z2.symm, hR⟩
  · rw [if_neg hx, if_neg (fun z => hx (ok_iff.mp z)), if_pos rfl]
    exact ⟨rfl, h⟩
end SIMB
