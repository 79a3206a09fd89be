section SIMI
variable {k : Nat} {I J I' J' : gI} {P : gP} {LG : Option Nat} {LP : Option (Nat × Nat)} {g v : Nat}
/-- all changes are at one processor -/
theorem Rb_proc (h : Rb k I J P LG LP) (hgk : g < k) (hv : v < 2)
    (i1 : ∀ (n : gN) f, ¬ n = pr g v → ¬ n = rg g v → ¬ (n = kp ∧ f = 5) → I' n f = I n f)
    (j1 : ∀ (n : gN) f, ¬ (n = ma 10 ∧ 4 * (2 * (g + 1) + v) ≤ f ∧ f < 4 * (2 * (g + 1) + v) + 4) → ¬ (n = ma 11 ∧ f = 2 * (g + 1) + v) → ¬ (n = ma 12 ∧ f = 2 * (g + 1) + v) → ¬ (n = mo ∧ f = 14) → J' n f = J n f)
    (hp : Rpr I' J' g v) : Rb k I' J' P LG LP := by
  have jn : ∀ n : gN, ¬ n = ma 10 → ¬ n = ma 11 → ¬ n = ma 12 → ¬ n = mo → J' n = J n := fun n n1 n2 n3 n4 => funext fun f => j1 n f (fun z => n1 z.1) (fun z => n2 z.1) (fun z => n3 z.1) (fun z => n4 z.1)
  have iN : ∀ n : gN, ¬ n = pr g v → ¬ n = rg g v → ¬ n = kp → I' n = I n := fun n n1 n2 n3 => funext fun f => i1 n f n1 n2 (fun z => n3 z.1)
  have m7 : J' mo 7 = J mo 7 := j1 _ _ (by simp) (by simp) (by simp) (by simp)
  have m13 : J' mo 13 = J mo 13 := j1 _ _ (by simp) (by simp) (by simp) (by simp)
  have m16 : J' mo 16 = J mo 16 := j1 _ _ (by simp) (by simp) (by simp) (by simp)
  have e0 : J' (ma 0) = J (ma 0) := jn _ (by simp) (by simp) (by simp) (by simp)
  have e1 : J' (ma 1) = J (ma 1) := jn _ (by simp) (by simp) (by simp) (by simp)
  have e2 : J' (ma 2) = J (ma 2) := jn _ (by simp) (by simp) (by simp) (by simp)
  have e3 : J' (ma 3) = J (ma 3) := jn _ (by simp) (by simp) (by simp) (by simp)
  have e4 : J' (ma 4) = J (ma 4) := jn _ (by simp) (by simp) (by simp) (by simp)
  have e5 : J' (mb 5) = J (mb 5) := jn _ (by simp) (by simp) (by simp) (by simp)
  have e6 : J' (mb 6) = J (mb 6) := jn _ (by simp) (by simp) (by simp) (by simp)
  have e8 : J' (mb 8) = J (mb 8) := jn _ (by simp) (by simp) (by simp) (by simp)
  have e9 : J' (mb 9) = J (mb 9) := jn _ (by simp) (by simp) (by simp) (by simp)
  have e15 : J' (ma 15) = J (ma 15) := jn _ (by simp) (by simp) (by simp) (by simp)
  obtain ⟨⟨hk, hmk, hmd⟩, hpg, hrg, hgu, hpr, hfr, hld, hfl, hre, hPl⟩ := h
  refine ⟨⟨hk, (i1 _ _ (by simp) (by simp) (by simp)).trans hmk, m7.trans hmd⟩, fun p hp => ?_, fun p hp => ?_, fun g' hg' => ?_, fun g' hg' v' hv' => ?_, fun g' h1 h2 => ?_, ?_, ?_, fun j hj => ?_, hPl⟩
  · have i1 := iN (pg p) (by simp) (by simp) (by simp)
    have i2 := iN (wd p) (by simp) (by simp) (by simp)
    have := hpg p hp
    simp only [Rpg, Rkind, liv, mMay, i1, i2, e0, e1, e2, e3, e5, e6, e8] at this ⊢
    exact this
  · simp only [mHolder, e1, e3, e4]
    exact hrg p hp
  · exact Rgu_same (hgu g' hg') (iN _ (by simp) (by simp) (by simp)) e8 e9 e1 e2 e3 e4
  · by_cases e : g' = g ∧ v' = v
    · obtain ⟨rfl, rfl⟩ := e
      exact hp
    · obtain ⟨r1, r2, r3, r4⟩ := hpr g' hg' v' hv'
      have c : ¬ 2 * (g' + 1) + v' = 2 * (g + 1) + v := by omega
      have ir : I' (rg g' v') = I (rg g' v') := iN _ (by simp) (fun z => e (by simpa using z)) (by simp)
      have ip : I' (pr g' v') = I (pr g' v') := iN _ (fun z => e (by simpa using z)) (by simp) (by simp)
      have k11 : J' (ma 11) (2 * (g' + 1) + v') = J (ma 11) (2 * (g' + 1) + v') := j1 _ _ (by simp) (fun z => c z.2) (by simp) (by simp)
      have k12 : J' (ma 12) (2 * (g' + 1) + v') = J (ma 12) (2 * (g' + 1) + v') := j1 _ _ (by simp) (by simp) (fun z => c z.2) (by simp)
      refine ⟨fun a ha => ?_, by rw [ip, k11]; exact r2, by rw [ctOK, k11]; exact r3, by rw [ip, k12]; exact r4⟩
      rw [ir, r1 a ha]
      exact (j1 _ _ (fun z => by have := z.2; omega) (by simp) (by simp) (by simp)).symm
  · obtain ⟨f1, f2⟩ := hfr g' h1 h2
    refine ⟨by rw [e9]; exact f1, fun v' hv' => ?_⟩
    obtain ⟨f3, f4, f5⟩ := f2 v' hv'
    have c : ¬ 2 * (g' + 1) + v' = 2 * (g + 1) + v := by omega
    refine ⟨fun a ha => ?_, ?_, ?_⟩
    · rw [j1 _ _ (fun z => by have := z.2; omega) (by simp) (by simp) (by simp)]
      exact f3 a ha
    · rw [j1 _ _ (by simp) (fun z => c z.2) (by simp) (by simp)]
      exact f4
    · rw [j1 _ _ (by simp) (by simp) (fun z => c z.2) (by simp)]
      exact f5
  · simp only [Rld, liv, e8, m13] at hld ⊢
    exact hld
  · rw [i1 _ _ (by simp) (by simp) (by simp), m16]
    exact hfl
  · rw [iN _ (by simp) (by simp) (by simp), e15]
    exact hre j hj
theorem Rb_reg (h : Rb k I J P LG LP) (hgk : g < k) (hv : v < 2) {a : Nat} (ha : a < 4) (x : Int32) : Rb k (iu I (rg g v) a x) (iu J (ma 10) (4 * (2 * (g + 1) + v) + a) x) P LG LP := by
  obtain ⟨r1, r2, r3, r4⟩ := h.pr hgk hv
  refine Rb_proc h hgk hv (fun n f n1 n2 n3 => by rw [iu_n _ _ _ n2]) (fun n f m1 _ _ _ => by rw [iu_at, if_neg (fun z => m1 ⟨z.1, by have := z.2; omega, by have := z.2; omega⟩)]) ⟨fun b hb => ?_, ?_, ?_, ?_⟩
  · rw [iu_at, iu_at]
    by_cases e : b = a
    · simp [e]
    · rw [if_neg (fun z => e z.2), if_neg (fun z => by have := z.2; omega)]
      exact r1 b hb
  · rw [iu_n _ _ _ (by simp), iu_n _ _ _ (by simp)]; exact r2
  · rw [ctOK, iu_n _ _ _ (by simp)]; exact r3
  · rw [iu_n _ _ _ (by simp), iu_n _ _ _ (by simp)]; exact r4
theorem Rb_word (h : Rb k I J P LG LP) {q i : Nat} (hq : q < 24) (hi : i < 4) (z : Int32) : Rb k (iu I (wd q) i z) (iu J (ma 0) (4 * q + i) z) P LG LP := by
  obtain ⟨w0, w1, w2, w5, w6, w7⟩ := h.page hq
  refine Rb_page h (q := q) (fun p hp => ⟨by simp [iu], by simp [iu, hp]⟩) (fun g v => ⟨by simp [iu], by simp [iu]⟩) ⟨by simp [iu], by simp [iu_at]⟩
    (fun p hp => ⟨fun j hj => ?_, by simp [iu_at], by simp [iu_at], by simp [iu_at], by simp [iu_at], by simp [iu_at], by simp [iu_at]⟩)
    ⟨by simp [iu], by simp [iu], by simp [iu], by simp [iu], by simp [iu], by simp [iu], by simp [iu_at], by simp [iu_at]⟩ (by simp [iu_at]; exact h.flt) ?_ ?_ (fun g hg => ?_) h.hPl
  · rw [iu_at, if_neg (fun y => by have := y.2; omega)]
  · refine ⟨fun j hj => ?_, ?_, ?_, ?_, ?_, ?_⟩
    · rw [iu_at, iu_at]
      by_cases e : j = i
      · simp [e]
      · have : ¬ 4 * q + j = 4 * q + i := by omega
        simp [e, this]; exact w0 j hj
    · simp only [iu_at]; simpa using w1
    · simp only [Rkind, liv, iu_at] at w2 ⊢
      simpa using w2
    · simp [iu_at]; exact w5
    · simp [iu_at]; exact w6
    · simp only [mMay, iu_at] at w7 ⊢
      simpa using w7
  · have := h.rng q hq
    simp only [mHolder, iu_at] at this ⊢
    simpa using this
  · exact Rgu_same (h.gu hg) (by simp [iu]) (by simp [iu]) (by simp [iu]) (by simp [iu]) (by simp [iu]) (by simp [iu]) (by simp [iu])
theorem sShare_n {q : Nat} {x : Int32} {n : gN} (h : ¬ n = (2, q, 0)) : sShare I q x n = I n := by
  unfold sShare
  split
  · exact iu_n _ _ _ h
  · rw [iu_n _ _ _ h, iu_n _ _ _ h]
theorem sShare_at {q : Nat} {x : Int32} (h1 : ¬ I (2, q, 0) 1 = 0) : sShare I q x (2, q, 0) 1 = I (2, q, 0) 1 ∧ sShare I q x (2, q, 0) 2 = I (2, q, 0) 2 ∧ sShare I q x (2, q, 0) 3 = I (2, q, 0) 3 ∧ sShare I q x (2, q, 0) 4 = x ∧ sShare I q x (2, q, 0) 5 = if x = 0 then 0 else I (2, q, 0) 5 := by
  unfold sShare sOpen
  by_cases e : x = 0
  · subst e
    simp [iu_at, h1]
  · simp [iu_at, e]
theorem Rb_share (h : Rb k I J P LG LP) {q : Nat} (hq : q < 24) (hl : liv J k g) (h1 : J (ma 1) q = nI (g + 1)) {x : Int32} (hx : x = 0 ∨ x = 1) : Rb k (sShare I q x) (mLook (iu J (mb 5) q x) q) P LG LP := by
  have hk := h.hk
  have hgk := hl.1
  have hg6 : g < 6 := by omega
  obtain ⟨w0, ⟨e1, e2, e4, e5⟩, w2, w5, w6, w7⟩ := h.page hq
  have n0 : ¬ J (ma 1) q = 0 := by rw [h1]; exact nI_g0 hg6
  obtain ⟨s1, s2, s3, s4, s5⟩ := sShare_at (I := I) (q := q) (x := x) (fun z => n0 (e1.symm.trans z))
  obtain ⟨z3, zi⟩ : J (ma 3) q = 0 ∧ I (pg q) 3 = 0 := by
    rcases w2 with ⟨y, -⟩ | ⟨y, -⟩ | ⟨y, -⟩ | ⟨g', -, -, y1, y2⟩
    · exact absurd y n0
    · exact absurd (h1.symm.trans y) (nI_gn7 hg6)
    · exact absurd (h1.symm.trans y) (nI_gn8 hg6)
    · exact ⟨y1, y2⟩
  have j1 : mLook (iu J (mb 5) q x) q (ma 1) = J (ma 1) := by unfold mLook; rw [iu_n _ _ _ (by simp), iu_n _ _ _ (by simp)]
  have j0 : mLook (iu J (mb 5) q x) q (ma 0) = J (ma 0) := by unfold mLook; rw [iu_n _ _ _ (by simp), iu_n _ _ _ (by simp)]
  have j2 : mLook (iu J (mb 5) q x) q (ma 2) = J (ma 2) := by unfold mLook; rw [iu_n _ _ _ (by simp), iu_n _ _ _ (by simp)]
  have j3 : mLook (iu J (mb 5) q x) q (ma 3) = J (ma 3) := by unfold mLook; rw [iu_n _ _ _ (by simp), iu_n _ _ _ (by simp)]
  have j4 : mLook (iu J (mb 5) q x) q (ma 4) = J (ma 4) := by unfold mLook; rw [iu_n _ _ _ (by simp), iu_n _ _ _ (by simp)]
  have j8 : mLook (iu J (mb 5) q x) q (mb 8) = J (mb 8) := by unfold mLook; rw [iu_n _ _ _ (by simp), iu_n _ _ _ (by simp)]
  have j9 : mLook (iu J (mb 5) q x) q (mb 9) = J (mb 9) := by unfold mLook; rw [iu_n _ _ _ (by simp), iu_n _ _ _ (by simp)]
  have j5 : mLook (iu J (mb 5) q x) q (mb 5) q = x := by unfold mLook; rw [iu_n _ _ _ (by simp), iu_at, if_pos ⟨rfl, rfl⟩]
  have hm : mMay (iu J (mb 5) q x) q ↔ ¬ x = 0 := by
    show (iu J (mb 5) q x (ma 1) q = 0 ∨ ¬ iu J (mb 5) q x (mb 5) q = 0) ↔ _
    rw [iu_n _ _ _ (show ma 1 ≠ mb 5 by simp), iu_at, if_pos ⟨rfl, rfl⟩]
    exact ⟨fun z => z.resolve_left n0, Or.inr⟩
  have j6 : mLook (iu J (mb 5) q x) q (mb 6) q = if x = 0 then 0 else J (mb 6) q := by
    show iu (iu J (mb 5) q x) (mb 6) q (bz (¬ iu J (mb 5) q x (mb 6) q = 0 ∧ mMay (iu J (mb 5) q x) q)) (mb 6) q = _
    rw [iu_at, if_pos ⟨rfl, rfl⟩]
    by_cases e : x = 0
    · rw [if_pos e]
      exact bz_f (fun z => hm.mp z.2 e)
    · rw [if_neg e]
      have i6 : iu J (mb 5) q x (mb 6) q = J (mb 6) q := by rw [iu_n _ _ _ (by simp)]
      rcases w6 with y | y
      · rw [y]; exact bz_f (fun z => z.1 (i6.trans y))
      · rw [y]; exact bz_t ⟨fun z => absurd (y.symm.trans (i6.symm.trans z)) (by decide), hm.mpr e⟩
  refine Rb_step h (q := q) (fun n n1 n2 n3 => sShare_n n1) ((AgJ.refl.iu (by simp)).iu (by simp)) ?_ ?_ (fun g' hg' => ?_) h.hPl
  · refine ⟨fun j hj => by rw [sShare_n (by simp), j0]; exact w0 j hj, ⟨by rw [j1]; exact s1.trans e1, by rw [j3]; exact s2.trans e2, by rw [j5]; exact s4, by rw [j6, ← e5]; exact s5⟩, Or.inr (Or.inr (Or.inr ⟨g, ⟨hgk, by rw [j8]; exact hl.2⟩, by rw [j1]; exact h1, by rw [j3]; exact z3, s3.trans zi⟩)), by rw [j5]; exact hx, ?_, ?_⟩
    · rw [j6]
      split
      · exact Or.inl rfl
      · exact w6
    · intro z
      refine Or.inr (fun y => z ?_)
      rw [j6, if_pos (j5.symm.trans y)]
  · have := h.rng q hq
    simp only [mHolder, j1, j3, j4] at this ⊢
    exact this
  · exact Rgu_same (h.gu hg') (sShare_n (by simp)) j8 j9 j1 j2 j3 j4
/-- what a step leaves -/
def stR (k : Nat) (P : gP) (LG : Option Nat) (LP : Option (Nat × Nat)) (g v : Nat) (r s : Int32 × gI) : Prop := r.1 = s.1 ∧ Rb k r.2 s.2 P LG LP ∧ r.2 (pr g v) 2 = s.2 mo 14 ∧ (s.1 = 0 → r.2 (pr g v) 2 = 0 ∧ r.2 (pr g v) 3 = -1)
theorem mEnd_o {c : Nat} {w t : Int32} {n : gN} (n1 : ¬ n = ma 11) (n2 : ¬ n = ma 12) (n3 : ¬ n = mo) : mEnd J c w t n = J n := by
  unfold mEnd
  rw [iu_n _ _ _ n2, iu_n _ _ _ n3, iu_n _ _ _ n1]
theorem end_sim {w t' e : Int32} (h : Rb k I J P LG LP) (hgk : g < k) (hv : v < 2) (h8 : ¬ w &&& 15 = 8) (h9 : ¬ w &&& 15 = 9) (hi : I (pr g v) 2 = 0) (ha : I (pr g v) 3 = -1) (ht : ∃ t, t < 256 ∧ t' = nI t) : stR k P LG LP g v (e, iu I (pr g v) 1 t') (e, mEnd J (2 * (g + 1) + v) w t') := by
  obtain ⟨r1, r2, r3, r4⟩ := h.pr hgk hv
  refine ⟨rfl, Rb_proc h hgk hv (fun n f n1 n2 n3 => ?_) (fun n f m1 m2 m3 m4 => ?_) ⟨fun a ha => ?_, ?_, ?_, ?_⟩, ?_, fun _ => ⟨?_, ?_⟩⟩
  · show iu I (pr g v) 1 t' n f = I n f
    rw [iu_n _ _ _ n1]
  · show mEnd J (2 * (g + 1) + v) w t' n f = J n f
    rw [mEnd, iu_at, if_neg m3, iu_at, if_neg m4, iu_at, if_neg m2]
  · show iu I (pr g v) 1 t' (rg g v) a = mEnd J (2 * (g + 1) + v) w t' (ma 10) _
    rw [iu_n _ _ _ (by simp), mEnd_o (by simp) (by simp) (by simp)]
    exact r1 a ha
  · show iu I (pr g v) 1 t' (pr g v) 1 = mEnd J (2 * (g + 1) + v) w t' (ma 11) _
    simp [mEnd, iu_at]
  · obtain ⟨t, ht, et⟩ := ht
    exact ⟨t, ht, by simp [mEnd, iu_at, et]⟩
  · exact Or.inl ⟨by simp [iu_at]; exact ha, by simp [mEnd, iu_at, h9]⟩
  · show iu I (pr g v) 1 t' (pr g v) 2 = mEnd J (2 * (g + 1) + v) w t' mo 14
    rw [mEnd, iu_n _ _ _ (show mo ≠ ma 12 by simp), iu_at, iu_at, if_neg (by simp), if_pos ⟨rfl, rfl⟩, if_neg h8]
    exact hi
  · show iu I (pr g v) 1 t' (pr g v) 2 = 0
    rw [iu_at, if_neg (by simp)]
    exact hi
  · show iu I (pr g v) 1 t' (pr g v) 3 = -1
    rw [iu_at, if_neg (by simp)]
    exact ha
theorem fault_sim {x : Int32} (h : Rb k I J P LG LP) (hgk : g < k) (hv : v < 2) : stR k P LG LP g v (1, sFault I g v x) (1, iu J mo 14 x) := by
  obtain ⟨r1, r2, r3, r4⟩ := h.pr hgk hv
  refine ⟨rfl, Rb_proc h hgk hv (fun n f n1 n2 n3 => ?_) (fun n f m1 m2 m3 m4 => ?_) ⟨fun a ha => ?_, ?_, ?_, ?_⟩, ?_, fun z => absurd (show (1 : Int32) = 0 from z) (by decide)⟩
  · show iu I (pr g v) 2 x n f = I n f
    rw [iu_n _ _ _ n1]
  · show iu J mo 14 x n f = J n f
    rw [iu_at, if_neg m4]
  · show iu I (pr g v) 2 x (rg g v) a = iu J mo 14 x (ma 10) _
    rw [iu_n _ _ _ (by simp), iu_n _ _ _ (by simp)]
    exact r1 a ha
  · show iu I (pr g v) 2 x (pr g v) 1 = iu J mo 14 x (ma 11) _
    rw [iu_n _ _ _ (show ma 11 ≠ mo by simp), iu_at, if_neg (by simp)]
    exact r2
  · rw [ctOK]
    show ∃ t, t < 256 ∧ iu J mo 14 x (ma 11) _ = nI t
    rw [iu_n _ _ _ (show ma 11 ≠ mo by simp)]
    exact r3
  · show (iu I (pr g v) 2 x (pr g v) 3 = -1 ∧ iu J mo 14 x (ma 12) _ = 0) ∨ ∃ a, a < 4 ∧ iu I (pr g v) 2 x (pr g v) 3 = nI a ∧ iu J mo 14 x (ma 12) _ = nI (a + 1)
    rw [iu_n _ _ _ (show ma 12 ≠ mo by simp), iu_at, if_neg (by simp)]
    exact r4
  · show iu I (pr g v) 2 x (pr g v) 2 = iu J mo 14 x mo 14
    rw [iu_at, iu_at, if_pos ⟨rfl, rfl⟩, if_pos ⟨rfl, rfl⟩]
theorem word_no (h : Rb k I J P LG LP) (hl : liv J k g) {t : Nat} (ht : t < 256) (hP : P g (t / 4) = none) : mWord J (nI (g + 1)) t = (-1, iu J mo 14 (nI t)) := by
  have e := ((h.gu hl.1).2.2.2.2 hl.2).2.held (a := t / 4) (by omega)
  rw [hP] at e
  have e' : mHeld J (nI (g + 1)) (nI (t / 4)) = -1 := e
  unfold mWord
  rw [e', if_pos m1_lt]
theorem word_yes (h : Rb k I J P LG LP) (hl : liv J k g) {t q : Nat} (ht : t < 256) (hP : P g (t / 4) = some q) : mWord J (nI (g + 1)) t = (nI (4 * q + t % 4), J) ∧ q < 24 ∧ I (wd q) (t % 4) = J (ma 0) (4 * q + t % 4) := by
  have hq := h.hPl _ _ _ hP
  have e := ((h.gu hl.1).2.2.2.2 hl.2).2.held (a := t / 4) (by omega)
  rw [hP] at e
  have e' : mHeld J (nI (g + 1)) (nI (t / 4)) = nI q := e
  refine ⟨?_, hq, (h.page hq).1 _ (by omega)⟩
  unfold mWord
  rw [e', if_neg (nI_pos (by omega)), idx4 q]
theorem turn_sim (h : Rb k I J P LG LP) (hl : liv J k g) {t : Nat} (ht : t < 64) {x : Int32} (hx : x = 0 ∨ x = 1) : (sChg I P g t x).1 = (mTurn J (nI (g + 1)) t x).1 ∧ Rb k (sChg I P g t x).2 (mTurn J (nI (g + 1)) t x).2 P LG LP ∧ ∀ n : gN, ¬ n.1 = 2 → (sChg I P g t x).2 n = I n := by
  have e := ((h.gu hl.1).2.2.2.2 hl.2).2.held ht
  cases hP : P g t with
  | none =>
    rw [hP] at e
    have e' : mHeld J (nI (g + 1)) (nI t) = -1 := e
    have e1 : sChg I P g t x = (0, I) := by simp only [sChg, hP]
    have e2 : mTurn J (nI (g + 1)) t x = (0, J) := by rw [mTurn, if_pos (Or.inl (by rw [e']; exact m1_lt))]
    rw [e1, e2]
    exact ⟨rfl, h, fun _ _ => rfl⟩
  | some q =>
    have hq := h.hPl _ _ _ hP
    rw [hP] at e
    have e' : mHeld J (nI (g + 1)) (nI t) = nI q := e
    obtain ⟨-, ⟨p1, p2, p4, p5⟩, -⟩ := h.page hq
    have g0 := (h.gu hl.1).1
    have e1 : sChg I P g t x = if ¬ I (pg q) 1 = I (gs g) 0 ∨ I (pg q) 4 = x then (0, I) else (1, sShare I q x) := by simp only [sChg, hP]
    rw [e1, mTurn, e', ix_nI (by omega), p1, p4, g0]
    by_cases z : ¬ J (ma 1) q = nI (g + 1) ∨ J (mb 5) q = x
    · rw [if_pos z, if_pos (Or.inr z)]
      exact ⟨rfl, h, fun _ _ => rfl⟩
    · rw [if_neg z, if_neg (fun y => by rcases y with y | y; exact nI_pos (by omega) y; exact z y)]
      have z1 : J (ma 1) q = nI (g + 1) := Classical.byContradiction fun y => z (Or.inl y)
      exact ⟨rfl, Rb_share h hq hl z1 hx, fun n hn => sShare_n (fun y => hn (by rw [y]))⟩
theorem wA_lt (w : Int32) : wA w < 4 := by
  obtain ⟨j, hj, e⟩ := pk_andE (m := 3) (w >>> ((4 : Int32) &&& 31)) 2 (by decide)
  show ix (w >>> ((4 : Int32) &&& 31) &&& 3) < 4
  rw [e, ix_nI (by omega)]
  exact hj
theorem wB_lt (w : Int32) : wB w < 4 := by
  obtain ⟨j, hj, e⟩ := pk_andE (m := 3) (w >>> ((6 : Int32) &&& 31)) 2 (by decide)
  show ix (w >>> ((6 : Int32) &&& 31) &&& 3) < 4
  rw [e, ix_nI (by omega)]
  exact hj
end SIMI
