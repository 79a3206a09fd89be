section SIMG
variable {k : Nat} {I J I' J' : gI} {P P' : gP} {LG : Option Nat} {LP : Option (Nat × Nat)} {q : Nat} {a : Int32}
theorem sLose_n {n : gN} (h : ¬ n = (2, q, 0)) : sLose I q a n = I n := by
  unfold sLose sLose1
  split <;> split <;> first | rw [iu_n _ _ _ h, sOwn_n h] | rw [iu_n _ _ _ h] | rw [sOwn_n h] | rfl
/-- what a page is behind its guest's end -/
theorem sLose_at (ha : ¬ a = 0) (h8 : ¬ a = 8) : sLose I q a (2, q, 0) 2 = (if I (2, q, 0) 2 = a then 0 else I (2, q, 0) 2) ∧
    ((I (2, q, 0) 1 = a ∨ I (2, q, 0) 3 = a) → sLose I q a (2, q, 0) 1 = 8 ∧ sLose I q a (2, q, 0) 3 = 0 ∧ sLose I q a (2, q, 0) 4 = 0 ∧ sLose I q a (2, q, 0) 5 = 0) ∧
    (¬ (I (2, q, 0) 1 = a ∨ I (2, q, 0) 3 = a) → sLose I q a (2, q, 0) 1 = I (2, q, 0) 1 ∧ sLose I q a (2, q, 0) 3 = I (2, q, 0) 3 ∧ sLose I q a (2, q, 0) 4 = I (2, q, 0) 4 ∧ sLose I q a (2, q, 0) 5 = I (2, q, 0) 5) := by
  obtain ⟨o1, o2, o3, o4, o5⟩ := sOwn_at (I := I) (q := q) (x := 8)
  have e2 : sLose1 I q a (2, q, 0) 2 = I (2, q, 0) 2 := by
    unfold sLose1
    split
    · exact o2
    · rfl
  refine ⟨?_, fun h => ?_, fun h => ?_⟩
  · unfold sLose
    rw [e2]
    by_cases z : I (2, q, 0) 2 = a
    · rw [if_pos z, if_pos z]; simp [iu_at]
    · rw [if_neg z, if_neg z]; exact e2
  · have e : sLose1 I q a = sOwn I q 8 := if_pos h
    unfold sLose
    rw [e, o2]
    by_cases z : I (2, q, 0) 2 = a
    · rw [if_pos z]
      simp only [iu_at]
      simp
      exact ⟨o1, o3, o4, o5.trans (if_neg (by decide))⟩
    · rw [if_neg z]
      exact ⟨o1, o3, o4, o5.trans (if_neg (by decide))⟩
  · have e : sLose1 I q a = I := if_neg h
    unfold sLose
    rw [e]
    by_cases z : I (2, q, 0) 2 = a
    · rw [if_pos z]; simp [iu_at]
    · rw [if_neg z]; simp
theorem sLose_cong (h : I' (2, q, 0) = I (2, q, 0)) (ha : ¬ a = 0) (h8 : ¬ a = 8) (f : Nat) (hf : f = 1 ∨ f = 2 ∨ f = 3 ∨ f = 4 ∨ f = 5) : sLose I' q a (2, q, 0) f = sLose I q a (2, q, 0) f := by
  obtain ⟨p2, p1, pn⟩ := sLose_at (I := I') (q := q) ha h8
  obtain ⟨q2, q1, qn⟩ := sLose_at (I := I) (q := q) ha h8
  rw [h] at p2 p1 pn
  by_cases z : I (2, q, 0) 1 = a ∨ I (2, q, 0) 3 = a
  · obtain ⟨a1, a3, a4, a5⟩ := p1 z
    obtain ⟨b1, b3, b4, b5⟩ := q1 z
    rcases hf with rfl | rfl | rfl | rfl | rfl
    · rw [a1, b1]
    · rw [p2, q2]
    · rw [a3, b3]
    · rw [a4, b4]
    · rw [a5, b5]
  · obtain ⟨a1, a3, a4, a5⟩ := pn z
    obtain ⟨b1, b3, b4, b5⟩ := qn z
    rcases hf with rfl | rfl | rfl | rfl | rfl
    · rw [a1, b1]
    · rw [p2, q2]
    · rw [a3, b3]
    · rw [a4, b4]
    · rw [a5, b5]
theorem sLoseN_n {n : gN} (h : ¬ n.1 = 2) : ∀ N, sLoseN I a N n = I n
  | 0 => rfl
  | N + 1 => by
    show sLose (sLoseN I a N) N a n = I n
    rw [sLose_n (fun z => h (by rw [z])), sLoseN_n h N]
theorem sLoseN_hi {p : Nat} : ∀ N, N ≤ p → sLoseN I a N (2, p, 0) = I (2, p, 0)
  | 0, _ => rfl
  | N + 1, h => by
    show sLose (sLoseN I a N) N a (2, p, 0) = I (2, p, 0)
    rw [sLose_n (by simp; omega), sLoseN_hi N (by omega)]
theorem sLoseN_lo {p f : Nat} (ha : ¬ a = 0) (h8 : ¬ a = 8) (hf : f = 1 ∨ f = 2 ∨ f = 3 ∨ f = 4 ∨ f = 5) : ∀ N, p < N → sLoseN I a N (2, p, 0) f = sLose I p a (2, p, 0) f
  | 0, h => absurd h (Nat.not_lt_zero _)
  | N + 1, h => by
    show sLose (sLoseN I a N) N a (2, p, 0) f = _
    by_cases e : p = N
    · subst e
      exact sLose_cong (sLoseN_hi p (Nat.le_refl _)) ha h8 f hf
    · rw [sLose_n (by simp [e]), sLoseN_lo ha h8 hf N (by omega)]
theorem mLose_o {n : gN} {f p : Nat} (h : ¬ ((n = ma 1 ∨ n = ma 3 ∨ n = mb 5 ∨ n = mb 6) ∧ f = p)) : mLose J a p n f = J n f := by
  have h1 : mLose1 J a p n f = J n f := by
    unfold mLose1
    split
    · unfold mLook
      rw [iu_at, if_neg (fun z => h ⟨by simp [z.1], z.2⟩), iu_at, if_neg (fun z => h ⟨by simp [z.1], z.2⟩), iu_at, if_neg (fun z => h ⟨by simp [z.1], z.2⟩)]
    · rfl
  unfold mLose
  rw [iu_at, if_neg (fun z => h ⟨by simp [z.1], z.2⟩)]
  exact h1
/-- the same for the reference -/
theorem mLose_at (h5 : J (mb 5) q = 0 ∨ J (mb 5) q = 1) : mLose J a q (ma 3) q = (if J (ma 3) q = a then 0 else J (ma 3) q) ∧
    ((J (ma 1) q = a ∨ (J (ma 1) q = 7 ∧ J (ma 2) q = a)) → mLose J a q (ma 1) q = 8 ∧ mLose J a q (mb 5) q = 0 ∧ mLose J a q (mb 6) q = 0) ∧
    (¬ (J (ma 1) q = a ∨ (J (ma 1) q = 7 ∧ J (ma 2) q = a)) → mLose J a q (ma 1) q = J (ma 1) q ∧ mLose J a q (mb 5) q = J (mb 5) q ∧ mLose J a q (mb 6) q = J (mb 6) q) := by
  have e3 : mLose1 J a q (ma 3) q = J (ma 3) q := by
    unfold mLose1
    split
    · unfold mLook
      rw [iu_n _ _ _ (by simp)]; simp [iu_at]
    · rfl
  refine ⟨?_, fun h => ?_, fun h => ?_⟩
  · unfold mLose
    rw [iu_at, if_pos ⟨rfl, rfl⟩, e3]
  · have e : mLose1 J a q = mLook (iu (iu J (ma 1) q 8) (mb 5) q 0) q := if_pos h
    unfold mLose
    rw [iu_n _ _ _ (by simp), iu_n _ _ _ (by simp), iu_n _ _ _ (by simp), e]
    unfold mLook
    refine ⟨by rw [iu_n _ _ _ (by simp)]; simp [iu_at], by rw [iu_n _ _ _ (by simp)]; simp [iu_at], ?_⟩
    rw [iu_at, if_pos ⟨rfl, rfl⟩]
    refine bz_f (fun z => ?_)
    rcases z.2 with y | y
    · simp [iu_at] at y
    · simp [iu_at] at y
  · have e : mLose1 J a q = J := if_neg h
    unfold mLose
    rw [iu_n _ _ _ (by simp), iu_n _ _ _ (by simp), iu_n _ _ _ (by simp), e]
    exact ⟨rfl, rfl, rfl⟩
theorem mLoseN_o {n : gN} {f : Nat} (h : ¬ (n = ma 1 ∨ n = ma 3 ∨ n = mb 5 ∨ n = mb 6)) : ∀ N, mLoseN J a N n f = J n f
  | 0 => rfl
  | N + 1 => by
    show mLose (mLoseN J a N) a N n f = J n f
    rw [mLose_o (fun z => h z.1), mLoseN_o h N]
theorem mLoseN_hi {n : gN} {f : Nat} : ∀ N, N ≤ f → mLoseN J a N n f = J n f
  | 0, _ => rfl
  | N + 1, h => by
    show mLose (mLoseN J a N) a N n f = J n f
    rw [mLose_o (fun z => by have := z.2; omega), mLoseN_hi N (by omega)]
theorem mLoseN_lo {p : Nat} {n : gN} (hn : n = ma 1 ∨ n = ma 3 ∨ n = mb 5 ∨ n = mb 6) (h5 : J (mb 5) p = 0 ∨ J (mb 5) p = 1) : ∀ N, p < N → mLoseN J a N n p = mLose J a p n p
  | 0, h => absurd h (Nat.not_lt_zero _)
  | N + 1, h => by
    show mLose (mLoseN J a N) a N n p = _
    by_cases e : p = N
    · subst e
      have c1 : mLoseN J a p (ma 1) p = J (ma 1) p := mLoseN_hi p (Nat.le_refl _)
      have c2 : mLoseN J a p (ma 2) p = J (ma 2) p := mLoseN_hi p (Nat.le_refl _)
      have c3 : mLoseN J a p (ma 3) p = J (ma 3) p := mLoseN_hi p (Nat.le_refl _)
      have c5 : mLoseN J a p (mb 5) p = J (mb 5) p := mLoseN_hi p (Nat.le_refl _)
      have c6 : mLoseN J a p (mb 6) p = J (mb 6) p := mLoseN_hi p (Nat.le_refl _)
      obtain ⟨p3, p1, pn⟩ := mLose_at (J := mLoseN J a p) (a := a) (q := p) (by rw [c5]; exact h5)
      obtain ⟨q3, q1, qn⟩ := mLose_at (J := J) (a := a) (q := p) h5
      rw [c3] at p3
      rw [c1, c2] at p1 pn
      rw [c5, c6] at pn
      by_cases z : J (ma 1) p = a ∨ (J (ma 1) p = 7 ∧ J (ma 2) p = a)
      · obtain ⟨a1, a5, a6⟩ := p1 z
        obtain ⟨b1, b5, b6⟩ := q1 z
        rcases hn with rfl | rfl | rfl | rfl
        · rw [a1, b1]
        · rw [p3, q3]
        · rw [a5, b5]
        · rw [a6, b6]
      · obtain ⟨a1, a5, a6⟩ := pn z
        obtain ⟨b1, b5, b6⟩ := qn z
        rcases hn with rfl | rfl | rfl | rfl
        · rw [a1, b1]
        · rw [p3, q3]
        · rw [a5, b5]
        · rw [a6, b6]
    · rw [mLose_o (fun z => e z.2), mLoseN_lo hn h5 N (by omega)]
end SIMG
