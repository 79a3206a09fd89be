section SIMC
variable {k : Nat} {I J I' J' : gI} {P P' : gP} {LG : Option Nat} {LP : Option (Nat × Nat)} {q : Nat}
theorem sWipe_n {n : gN} (h : ¬ n = (3, q, 0)) : sWipe I q n = I n := by simp [sWipe, iu, h]
theorem sWipe_w {j : Nat} (h : j < 4) : sWipe I q (3, q, 0) j = 0 := by
  rcases (show j = 0 ∨ j = 1 ∨ j = 2 ∨ j = 3 by omega) with rfl | rfl | rfl | rfl <;> simp [sWipe, iu_at]
theorem mWipe_n {n : gN} (h : ¬ n = (12, 0, 0)) : mWipe J q n = J n := by simp [mWipe, iu, h]
theorem mWipe_w {j : Nat} (h : j < 4) : mWipe J q (12, 0, 0) (4 * q + j) = 0 := by
  rcases (show j = 0 ∨ j = 1 ∨ j = 2 ∨ j = 3 by omega) with rfl | rfl | rfl | rfl <;> simp [mWipe, iu_at]
theorem mWipe_o {p j : Nat} (hj : j < 4) (h : ¬ p = q) : mWipe J q (12, 0, 0) (4 * p + j) = J (12, 0, 0) (4 * p + j) := by
  have h0 : ¬ 4 * p + j = 4 * q := by omega
  have h1 : ¬ 4 * p + j = 4 * q + 1 := by omega
  have h2 : ¬ 4 * p + j = 4 * q + 2 := by omega
  have h3 : ¬ 4 * p + j = 4 * q + 3 := by omega
  simp [mWipe, iu_at, h0, h1, h2, h3]
theorem sOwn_n {n : gN} {x : Int32} (h : ¬ n = (2, q, 0)) : sOwn I q x n = I n := by
  unfold sOwn sShare
  split <;> simp [iu, h]
theorem sOwn_at {x : Int32} : sOwn I q x (2, q, 0) 1 = x ∧ sOwn I q x (2, q, 0) 2 = I (2, q, 0) 2 ∧ sOwn I q x (2, q, 0) 3 = 0 ∧ sOwn I q x (2, q, 0) 4 = 0 ∧ sOwn I q x (2, q, 0) 5 = if x = 0 then I (2, q, 0) 5 else 0 := by
  unfold sOwn sShare
  by_cases hx : x = 0
  · rw [if_pos (Or.inl (by simp [iu_at, hx]))]
    simp [iu_at, hx]
  · rw [if_neg (by simp [iu_at, hx])]
    simp [iu_at, hx]
theorem mKept_upd (hq : q < 24) (h : ∀ p, p ≠ q → J' (ma 1) p = J (ma 1) p ∧ J' (ma 2) p = J (ma 2) p) (G : Int32) : mKept J' G + (if J (ma 1) q = 7 ∧ J (ma 2) q = G then 1 else 0) = mKept J G + (if J' (ma 1) q = 7 ∧ J' (ma 2) q = G then 1 else 0) := by
  have key : ∀ n, cntB (fun p => decide (J' (ma 1) p = 7 ∧ J' (ma 2) p = G)) n + (if q < n ∧ J (ma 1) q = 7 ∧ J (ma 2) q = G then 1 else 0) = cntB (fun p => decide (J (ma 1) p = 7 ∧ J (ma 2) p = G)) n + (if q < n ∧ J' (ma 1) q = 7 ∧ J' (ma 2) q = G then 1 else 0) := by
    intro n
    induction n with
    | zero => simp [cntB]
    | succ n ih =>
      simp only [cntB, decide_eq_true_eq]
      by_cases e : n = q
      · subst e
        have h0 : ¬ n < n := by omega
        have h1 : n < n + 1 := by omega
        simp only [h0, h1, false_and, true_and, if_false] at ih ⊢
        omega
      · obtain ⟨e1, e2⟩ := h n e
        have h1 : (q < n + 1) = (q < n) := by apply propext; omega
        simp only [e1, e2, h1]
        omega
  have := key 24
  simp only [hq, true_and] at this
  exact this
theorem plOK_same {g : Nat} {G : Int32} (h : plOK J P g G) (hm : ∀ p a, p < 24 → (mIs J' G a p ↔ mIs J G a p)) (hP : P' g = P g) : plOK J' P' g G := by
  intro a ha p
  rw [hP, h a ha p]
  exact ⟨fun z => ⟨z.1, (hm p _ z.1).mpr z.2⟩, fun z => ⟨z.1, (hm p _ z.1).mp z.2⟩⟩
theorem hol_cong {p : Nat} (h1 : J' (ma 1) p = J (ma 1) p) (h3 : J' (ma 3) p = J (ma 3) p) : mHolder J' p = mHolder J p := by simp only [mHolder, h1, h3]
/-- a page comes to a place of a guest -/
theorem plOK_add {g b : Nat} {G : Int32} (hq : q < 24) (hb : b < 64) (h : plOK J P g G) (h0 : ¬ mHolder J q = G) (ho : ∀ p, p ≠ q → mHolder J' p = mHolder J p ∧ J' (ma 4) p = J (ma 4) p) (h1 : mHolder J' q = G) (h4 : J' (ma 4) q = nI b) (hn : P g b = none) : plOK J' (pu P g b (some q)) g G := by
  intro a ha p
  rw [pu_at]
  by_cases e : a = b
  · subst e
    rw [if_pos ⟨rfl, rfl⟩]
    constructor
    · intro z
      cases z
      exact ⟨hq, h1, h4⟩
    · rintro ⟨z1, z2, z3⟩
      by_cases ep : p = q
      · rw [ep]
      · obtain ⟨o1, o2⟩ := ho p ep
        have := (h a ha p).mpr ⟨z1, o1.symm.trans z2, o2.symm.trans z3⟩
        rw [hn] at this
        cases this
  · rw [if_neg (fun z => e z.2), h a ha p]
    by_cases ep : p = q
    · subst ep
      constructor
      · rintro ⟨-, z2, -⟩
        exact absurd z2 h0
      · rintro ⟨-, -, z3⟩
        exact absurd (n32 (by omega) (by omega) (h4.symm.trans z3)).symm e
    · obtain ⟨o1, o2⟩ := ho p ep
      simp only [mIs, o1, o2]
theorem mIs_other {G : Int32} {a : Int32} {p : Nat} (h0 : ¬ mHolder J q = G) (h1 : ¬ mHolder J' q = G) (ho : ∀ p, p ≠ q → mHolder J' p = mHolder J p ∧ J' (ma 4) p = J (ma 4) p) : mIs J' G a p ↔ mIs J G a p := by
  by_cases ep : p = q
  · subst ep
    exact ⟨fun z => absurd z.1 h1, fun z => absurd z.1 h0⟩
  · obtain ⟨o1, o2⟩ := ho p ep
    simp only [mIs, o1, o2]
theorem free_iff (h : Rb k I J P LG LP) (x : Int32) : sFree I x ↔ mFree J x := by
  constructor
  · rintro ⟨hx, h1, h2⟩
    obtain ⟨j, hj, rfl⟩ := isP_ix hx
    rw [ix_nI (by omega)] at h1 h2
    obtain ⟨-, ⟨e1, e2, -⟩, -⟩ := h.page hj
    exact ⟨hx, by rw [ix_nI (by omega)]; exact e1.symm.trans h1, by rw [ix_nI (by omega)]; exact e2.symm.trans h2⟩
  · rintro ⟨hx, h1, h2⟩
    obtain ⟨j, hj, rfl⟩ := isP_ix hx
    rw [ix_nI (by omega)] at h1 h2
    obtain ⟨-, ⟨e1, e2, -⟩, -⟩ := h.page hj
    exact ⟨hx, by rw [ix_nI (by omega)]; exact e1.trans h1, by rw [ix_nI (by omega)]; exact e2.trans h2⟩
/-- a free page of the host -/
theorem free_page (h : Rb k I J P LG LP) (hq : q < 24) (h1 : J (ma 1) q = 0) (h3 : J (ma 3) q = 0) : J (mb 5) q = 0 ∧ mHolder J q = 0 := by
  refine ⟨?_, hol_0 h3 h1 (Or.inl (by decide))⟩
  rcases (h.page hq).2.2.1 with ⟨-, z, -⟩ | ⟨z, -⟩ | ⟨z, -⟩ | ⟨g, hl, z, -⟩
  · exact z
  · rw [h1] at z; exact absurd z (by decide)
  · rw [h1] at z; exact absurd z (by decide)
  · rw [h1] at z
    have := h.hk
    have := hl.1
    exact absurd z.symm (nI_g0 (by omega))
theorem mWipe_at {n : gN} {f : Nat} : mWipe J q n f = if n = ma 0 ∧ 4 * q ≤ f ∧ f < 4 * q + 4 then 0 else J n f := by
  by_cases hn : n = ma 0
  · subst hn
    by_cases hf : 4 * q ≤ f ∧ f < 4 * q + 4
    · rw [if_pos ⟨rfl, hf⟩]
      obtain ⟨j, rfl⟩ : ∃ j, f = 4 * q + j := ⟨f - 4 * q, by omega⟩
      exact mWipe_w (by omega)
    · rw [if_neg (fun z => hf z.2)]
      have h0 : ¬ f = 4 * q := by omega
      have h1 : ¬ f = 4 * q + 1 := by omega
      have h2 : ¬ f = 4 * q + 2 := by omega
      have h3 : ¬ f = 4 * q + 3 := by omega
      simp [mWipe, iu_at, h0, h1, h2, h3]
  · rw [if_neg (fun z => hn z.1), mWipe_n hn]
/-- all changes are at one page -/
def AgJ (q : Nat) (J J' : gI) : Prop := ∀ n f, ¬ ((n = ma 1 ∨ n = ma 2 ∨ n = ma 3 ∨ n = ma 4 ∨ n = mb 5 ∨ n = mb 6) ∧ f = q) → ¬ (n = ma 0 ∧ 4 * q ≤ f ∧ f < 4 * q + 4) → J' n f = J n f
def AgI (q : Nat) (I I' : gI) : Prop := ∀ n, ¬ n = pg q → ¬ n = wd q → ¬ n.1 = 6 → I' n = I n
theorem AgJ.refl : AgJ q J J := fun _ _ _ _ => rfl
theorem AgJ.iu {n0 : gN} {x : Int32} (h : AgJ q J J') (hn : n0 = ma 1 ∨ n0 = ma 2 ∨ n0 = ma 3 ∨ n0 = ma 4 ∨ n0 = mb 5 ∨ n0 = mb 6) : AgJ q J (iu J' n0 q x) := fun n f h1 h2 => by
  rw [iu_at, if_neg (fun z => h1 ⟨by rw [z.1]; exact hn, z.2⟩)]
  exact h n f h1 h2
theorem AgJ.wipe (h : AgJ q J J') : AgJ q J (mWipe J' q) := fun n f h1 h2 => by
  rw [mWipe_at, if_neg h2]
  exact h n f h1 h2
theorem AgJ.o {p : Nat} (h : AgJ q J J') (hp : p ≠ q) : (∀ j, j < 4 → J' (ma 0) (4 * p + j) = J (ma 0) (4 * p + j)) ∧ J' (ma 1) p = J (ma 1) p ∧ J' (ma 2) p = J (ma 2) p ∧ J' (ma 3) p = J (ma 3) p ∧ J' (ma 4) p = J (ma 4) p ∧ J' (mb 5) p = J (mb 5) p ∧ J' (mb 6) p = J (mb 6) p :=
  ⟨fun j hj => h _ _ (by simp) (by simp; omega), h _ _ (fun z => hp z.2) (by simp), h _ _ (fun z => hp z.2) (by simp), h _ _ (fun z => hp z.2) (by simp), h _ _ (fun z => hp z.2) (by simp), h _ _ (fun z => hp z.2) (by simp), h _ _ (fun z => hp z.2) (by simp)⟩
theorem AgJ.r {n : gN} (h : AgJ q J J') (hn : n = mb 8 ∨ n = mb 9 ∨ n = ma 10 ∨ n = ma 11 ∨ n = ma 12 ∨ n = ma 15 ∨ n = mo) : J' n = J n := by
  funext f
  refine h n f (fun z => ?_) (fun z => ?_)
  · rcases hn with rfl | rfl | rfl | rfl | rfl | rfl | rfl <;> simp at z
  · rcases hn with rfl | rfl | rfl | rfl | rfl | rfl | rfl <;> simp at z
theorem Rb_step (h : Rb k I J P LG LP) (aI : AgI q I I') (aJ : AgJ q J J') (c2 : Rpg k I' J' q) (c3 : mHolder J' q = 0 ∨ ∃ a, a < 64 ∧ J' (ma 4) q = nI a) (c4 : ∀ g, g < k → Rgu I' J' P' g) (c5 : ∀ g a q, P' g a = some q → q < 24) : Rb k I' J' P' LG LP := by
  have hmo : J' mo = J mo := aJ.r (by simp)
  refine Rb_page h (q := q) (fun p hp => ⟨aI _ (by simp [hp]) (by simp) (by simp), aI _ (by simp) (by simp [hp]) (by simp)⟩) (fun g v => ⟨aI _ (by simp) (by simp) (by simp), aI _ (by simp) (by simp) (by simp)⟩) ⟨aI _ (by simp) (by simp) (by simp), by rw [aI _ (by simp) (by simp) (by simp)]⟩
    (fun p hp => aJ.o hp) ⟨aJ.r (by simp), aJ.r (by simp), aJ.r (by simp), aJ.r (by simp), aJ.r (by simp), aJ.r (by simp), by rw [hmo], by rw [hmo]⟩ ?_ c2 c3 c4 c5
  rw [aI _ (by simp) (by simp) (by simp), hmo]
  exact h.flt
theorem gR_step (h : gR k I J P LG LP) (aI : AgI q I I') (aJ : AgJ q J J') (c2 : Rpg k I' J' q) (c3 : mHolder J' q = 0 ∨ ∃ a, a < 64 ∧ J' (ma 4) q = nI a) (c4 : ∀ g, g < k → Rgu I' J' P' g) (c5 : ∀ g a q, P' g a = some q → q < 24) : gR k I' J' P' LG LP := by
  refine ⟨Rb_step h.1 aI aJ c2 c3 c4 c5, ?_⟩
  have hmo : J' mo = J mo := aJ.r (by simp)
  rw [aI _ (by simp) (by simp) (by simp), hmo]
  exact h.2
/-- a guest, when one page has changed -/
theorem Rgu_step {g : Nat} (hg : g < 6) (h : Rgu I J P g) (hq : q < 24) (aJ : AgJ q J J') (i0 : I' (gs g) 0 = I (gs g) 0) (i3 : I' (gs g) 3 = I (gs g) 3) (i4 : I' (gs g) 4 = I (gs g) 4)
    (c : J (mb 8) (g + 1) = 1 → I (gs g) 5 + 1 = nI (mKept J (nI (g + 1))) → plOK J P g (nI (g + 1)) → I' (gs g) 5 + 1 = nI (mKept J' (nI (g + 1))) ∧ plOK J' P' g (nI (g + 1))) : Rgu I' J' P' g := by
  obtain ⟨u0, u1, u2, u3, u4⟩ := h
  have h8 : J' (mb 8) = J (mb 8) := aJ.r (by simp)
  have h9 : J' (mb 9) = J (mb 9) := aJ.r (by simp)
  refine ⟨i0.trans u0, by rw [i3, h8]; exact u1, by rw [h8]; exact u2, by rw [i4, h9]; exact u3, fun y => ?_⟩
  rw [h8] at y
  exact c y (u4 y).1 (u4 y).2
/-- nothing of a guest's changes: the page is neither held nor kept, before and behind -/
theorem Rgu_off {g : Nat} (hg : g < 6) (h : Rgu I J P g) (hq : q < 24) (aJ : AgJ q J J') (hI : I' (gs g) = I (gs g)) (h0 : ¬ mHolder J q = nI (g + 1)) (h1 : ¬ mHolder J' q = nI (g + 1)) (k0 : ¬ (J (ma 1) q = 7 ∧ J (ma 2) q = nI (g + 1))) (k1 : ¬ (J' (ma 1) q = 7 ∧ J' (ma 2) q = nI (g + 1))) (hP : P' g = P g) : Rgu I' J' P' g := by
  refine Rgu_step hg h hq aJ (by rw [hI]) (by rw [hI]) (by rw [hI]) (fun _ v1 v2 => ⟨?_, plOK_same v2 (fun p a _ => mIs_other (q := q) h0 h1 (fun p hp => ⟨hol_cong (aJ.o hp).2.1 (aJ.o hp).2.2.2.1, (aJ.o hp).2.2.2.2.1⟩)) hP⟩)
  rw [hI, v1]
  have := mKept_upd (J' := J') (J := J) hq (fun p hp => ⟨(aJ.o hp).2.1, (aJ.o hp).2.2.1⟩) (nI (g + 1))
  rw [if_neg k0, if_neg k1] at this
  rw [show mKept J' (nI (g + 1)) = mKept J (nI (g + 1)) by omega]
theorem sim_reclaim (h : gR k I J P LG LP) (x : Int32) : (cReclaim I x).1 = (mReclaim J x).1 ∧ gR k (cReclaim I x).2 (mReclaim J x).2 P LG LP := by
  unfold cReclaim mReclaim
  by_cases hx : isP x
  · obtain ⟨q, hq, rfl⟩ := isP_ix hx
    rw [ix_nI (by omega)]
    obtain ⟨w0, ⟨e1, e2, e4, e5⟩, w2, w5, w6, w7⟩ := h.1.page hq
    have hk := h.1.hk
    by_cases z : J (ma 1) q = 8
    · rw [if_pos ⟨hx, e1.trans z⟩, if_pos ⟨hx, z⟩]
      obtain ⟨hs, hl3, hk3⟩ : J (mb 5) q = 0 ∧ J (ma 3) q = 0 ∧ I (pg q) 3 = 0 := by
        rcases w2 with ⟨y, -⟩ | ⟨y, -⟩ | ⟨-, y1, y2, y3⟩ | ⟨g, hl, y, -⟩
        · rw [z] at y; exact absurd y (by decide)
        · rw [z] at y; exact absurd y (by decide)
        · exact ⟨y1, y2, y3⟩
        · rw [z] at y
          have := hl.1
          exact absurd y.symm (nI_gn8 (by omega))
      have hm0 : J (mb 6) q = 0 := by
        by_cases y : J (mb 6) q = 0
        · exact y
        · rcases w7 y with y1 | y1
          · rw [z] at y1; exact absurd y1 (by decide)
          · exact absurd hs y1
      obtain ⟨o1, o2, o3, o4, o5⟩ := sOwn_at (I := sWipe I q) (q := q) (x := 0)
      have aJ : AgJ q J (mWipe (iu J (ma 1) q 0) q) := (AgJ.refl.iu (by simp)).wipe
      have j1 : mWipe (iu J (ma 1) q 0) q (ma 1) q = 0 := by rw [mWipe_n (by simp)]; simp [iu_at]
      have j3 : mWipe (iu J (ma 1) q 0) q (ma 3) q = 0 := by rw [mWipe_n (by simp)]; simp [iu_at]; exact hl3
      have j5 : mWipe (iu J (ma 1) q 0) q (mb 5) q = 0 := by rw [mWipe_n (by simp)]; simp [iu_at]; exact hs
      have j6 : mWipe (iu J (ma 1) q 0) q (mb 6) q = 0 := by rw [mWipe_n (by simp)]; simp [iu_at]; exact hm0
      have g0 : mHolder J q = 0 := hol_0 hl3 z (Or.inr (by decide))
      have g1 : mHolder (mWipe (iu J (ma 1) q 0) q) q = 0 := hol_0 j3 j1 (Or.inl (by decide))
      refine ⟨rfl, gR_step h (q := q) (fun n h1 h2 h3 => by show sOwn (sWipe I q) q 0 n = I n; rw [sOwn_n h1, sWipe_n h2]) aJ ?_ (Or.inl g1) (fun g hg => ?_) h.1.hPl⟩
      · refine ⟨fun j hj => ?_, ⟨o1.trans j1.symm, ?_, o4.trans j5.symm, ?_⟩, Or.inl ⟨j1, j5, Or.inl j3, o3⟩, Or.inl j5, Or.inl j6, fun y => absurd j6 y⟩
        · show sOwn (sWipe I q) q 0 (3, q, 0) j = mWipe (iu J (ma 1) q 0) q (12, 0, 0) (4 * q + j)
          rw [sOwn_n (by simp), sWipe_w hj, mWipe_w hj]
        · show sOwn (sWipe I q) q 0 (2, q, 0) 2 = _
          rw [o2]; refine Eq.trans ?_ j3.symm; rw [sWipe_n (by simp)]; exact e2.trans hl3
        · show sOwn (sWipe I q) q 0 (2, q, 0) 5 = _
          rw [o5, if_pos rfl]; refine Eq.trans ?_ j6.symm; rw [sWipe_n (by simp)]; exact e5.trans hm0
      · exact Rgu_off (by omega) (h.1.gu hg) hq aJ (by show sOwn (sWipe I q) q 0 (gs g) = _; rw [sOwn_n (by simp), sWipe_n (by simp)]) (by rw [g0]; exact fun y => nI_g0 (by omega) y.symm) (by show ¬ mHolder (mWipe (iu J (ma 1) q 0) q) q = _; rw [g1]; exact fun y => nI_g0 (by omega) y.symm) (fun y => by rw [z] at y; exact absurd y.1 (by decide)) (fun y => absurd (j1.symm.trans y.1) (by decide)) rfl
    · rw [if_neg (fun y => z (e1.symm.trans y.2)), if_neg (fun y => z y.2)]
      exact ⟨rfl, h⟩
  · rw [if_neg (fun y => hx y.1), if_neg (fun y => hx y.1)]
    exact ⟨rfl, h⟩
end SIMC
