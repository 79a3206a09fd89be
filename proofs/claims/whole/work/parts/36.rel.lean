/-! the relation between the class's state and the reference's -/
def liv (J : gI) (k g : Nat) : Prop := g < k ∧ J (mb 8) (g + 1) = 1
/-- whose a page is: the host's (perhaps lent), the keeper's, nobody's, a guest's -/
def Rkind (k : Nat) (I J : gI) (q : Nat) : Prop :=
  (J (ma 1) q = 0 ∧ J (mb 5) q = 0 ∧ (J (ma 3) q = 0 ∨ ∃ g, liv J k g ∧ J (ma 3) q = nI (g + 1)) ∧ I (pg q) 3 = 0) ∨
  (J (ma 1) q = 7 ∧ J (mb 5) q = 0 ∧ J (ma 3) q = 0 ∧ I (pg q) 3 = J (ma 2) q ∧ ∃ g, liv J k g ∧ J (ma 2) q = nI (g + 1)) ∨
  (J (ma 1) q = 8 ∧ J (mb 5) q = 0 ∧ J (ma 3) q = 0 ∧ I (pg q) 3 = 0) ∨
  (∃ g, liv J k g ∧ J (ma 1) q = nI (g + 1) ∧ J (ma 3) q = 0 ∧ I (pg q) 3 = 0)
def Rpg (k : Nat) (I J : gI) (q : Nat) : Prop :=
  (∀ j, j < 4 → I (wd q) j = J (ma 0) (4 * q + j)) ∧
  (I (pg q) 1 = J (ma 1) q ∧ I (pg q) 2 = J (ma 3) q ∧ I (pg q) 4 = J (mb 5) q ∧ I (pg q) 5 = J (mb 6) q) ∧
  Rkind k I J q ∧ (J (mb 5) q = 0 ∨ J (mb 5) q = 1) ∧ (J (mb 6) q = 0 ∨ J (mb 6) q = 1) ∧ (¬ J (mb 6) q = 0 → mMay J q)
def Rgu (I J : gI) (P : gP) (g : Nat) : Prop := I (gs g) 0 = nI (g + 1) ∧ I (gs g) 3 = J (mb 8) (g + 1) ∧ (J (mb 8) (g + 1) = 0 ∨ J (mb 8) (g + 1) = 1) ∧ I (gs g) 4 = J (mb 9) (g + 1) ∧
  (J (mb 8) (g + 1) = 1 → I (gs g) 5 + 1 = nI (mKept J (nI (g + 1))) ∧ plOK J P g (nI (g + 1)))
def Rpr (I J : gI) (g v : Nat) : Prop := (∀ a, a < 4 → I (rg g v) a = J (ma 10) (4 * (2 * (g + 1) + v) + a)) ∧ I (pr g v) 1 = J (ma 11) (2 * (g + 1) + v) ∧ ctOK J (2 * (g + 1) + v) ∧
  ((I (pr g v) 3 = -1 ∧ J (ma 12) (2 * (g + 1) + v) = 0) ∨ ∃ a, a < 4 ∧ I (pr g v) 3 = nI a ∧ J (ma 12) (2 * (g + 1) + v) = nI (a + 1))
def Rfr (k : Nat) (J : gI) : Prop := ∀ g, k ≤ g → g < 6 → J (mb 9) (g + 1) = 0 ∧ ∀ v, v < 2 → (∀ a, a < 4 → J (ma 10) (4 * (2 * (g + 1) + v) + a) = 0) ∧ J (ma 11) (2 * (g + 1) + v) = 0 ∧ J (ma 12) (2 * (g + 1) + v) = 0
def Rld (k : Nat) (J : gI) (LG : Option Nat) (LP : Option (Nat × Nat)) : Prop := (LP = none ∧ LG = none ∧ J mo 13 = -1) ∨ ∃ g v, liv J k g ∧ v < 2 ∧ LG = some g ∧ LP = some (g, v) ∧ J mo 13 = nI (2 * (g + 1) + v)
/-- all but the info -/
def Rb (k : Nat) (I J : gI) (P : gP) (LG : Option Nat) (LP : Option (Nat × Nat)) : Prop :=
  (k ≤ 6 ∧ I kp 3 = nI k ∧ J mo 7 = nI k) ∧ (∀ q, q < 24 → Rpg k I J q) ∧ rngOK J ∧ (∀ g, g < k → Rgu I J P g) ∧ (∀ g, g < k → ∀ v, v < 2 → Rpr I J g v) ∧ Rfr k J ∧ Rld k J LG LP ∧ I kp 4 = J mo 16 ∧ (∀ j, j < 4 → I hg j = J (ma 15) j) ∧ (∀ g a q, P g a = some q → q < 24)
def gR (k : Nat) (I J : gI) (P : gP) (LG : Option Nat) (LP : Option (Nat × Nat)) : Prop := Rb k I J P LG LP ∧ I kp 5 = J mo 14
section GRS
variable {k : Nat} {I J : gI} {P : gP} {LG : Option Nat} {LP : Option (Nat × Nat)}
theorem Rb.hk (h : Rb k I J P LG LP) : k ≤ 6 := h.1.1
theorem Rb.hmk (h : Rb k I J P LG LP) : I kp 3 = nI k := h.1.2.1
theorem Rb.hmd (h : Rb k I J P LG LP) : J mo 7 = nI k := h.1.2.2
theorem Rb.page (h : Rb k I J P LG LP) {q : Nat} (hq : q < 24) : Rpg k I J q := h.2.1 q hq
theorem Rb.rng (h : Rb k I J P LG LP) : rngOK J := h.2.2.1
theorem Rb.gu (h : Rb k I J P LG LP) {g : Nat} (hg : g < k) : Rgu I J P g := h.2.2.2.1 g hg
theorem Rb.pr (h : Rb k I J P LG LP) {g v : Nat} (hg : g < k) (hv : v < 2) : Rpr I J g v := h.2.2.2.2.1 g hg v hv
theorem Rb.fr (h : Rb k I J P LG LP) : Rfr k J := h.2.2.2.2.2.1
theorem Rb.ld (h : Rb k I J P LG LP) : Rld k J LG LP := h.2.2.2.2.2.2.1
theorem Rb.flt (h : Rb k I J P LG LP) : I kp 4 = J mo 16 := h.2.2.2.2.2.2.2.1
theorem Rb.reg (h : Rb k I J P LG LP) : ∀ j, j < 4 → I hg j = J (ma 15) j := h.2.2.2.2.2.2.2.2.1
theorem Rb.hPl (h : Rb k I J P LG LP) : ∀ g a q, P g a = some q → q < 24 := h.2.2.2.2.2.2.2.2.2
theorem Rb.h01 (h : Rb k I J P LG LP) : ∀ q, q < 24 → J (13, 6, 0) q = 0 ∨ J (13, 6, 0) q = 1 := fun q hq => (h.page hq).2.2.2.2.1
theorem Rb.hLG (h : Rb k I J P LG LP) : ∀ g, LG = some g → g < k := fun g hg => by
  rcases h.ld with ⟨-, z, -⟩ | ⟨g', v, hl, hv, z, -, -⟩
  · rw [z] at hg; cases hg
  · rw [z] at hg; cases hg; exact hl.1
theorem Rb.hLP (h : Rb k I J P LG LP) : ∀ q, LP = some q → q.1 < k ∧ q.2 < 2 ∧ LG = some q.1 := fun q hq => by
  rcases h.ld with ⟨z, -, -⟩ | ⟨g', v, hl, hv, z1, z, -⟩
  · rw [z] at hq; cases hq
  · rw [z] at hq; cases hq; exact ⟨hl.1, hv, z1⟩
theorem Rb.hask (h : Rb k I J P LG LP) : ∀ g v, g < k → v < 2 → (I (9, g, v) 3 = -1 ∨ ∃ a, a < 4 ∧ I (9, g, v) 3 = nI a) := fun g v hg hv => by
  rcases (h.pr hg hv).2.2.2 with ⟨z, -⟩ | ⟨a, ha, z, -⟩
  · exact Or.inl z
  · exact Or.inr ⟨a, ha, z⟩
theorem Rb.hpc (h : Rb k I J P LG LP) : ∀ g v, g < k → v < 2 → pcOK I g v := fun g v hg hv => by
  obtain ⟨-, e, ⟨t, ht, et⟩, -⟩ := h.pr hg hv
  exact ⟨t, ht, e.trans et⟩
theorem Rb.hld (h : Rb k I J P LG LP) : ¬ J (11, 0, 0) 13 < 0 → ∃ q, q < 14 ∧ J (11, 0, 0) 13 = nI q ∧ ctOK J q ∧ (J (12, 12, 0) q = 0 ∨ ∃ a, a < 4 ∧ J (12, 12, 0) q = nI (a + 1)) := fun hn => by
  rcases h.ld with ⟨-, -, z⟩ | ⟨g, v, hl, hv, -, -, z⟩
  · rw [z] at hn; exact absurd m1_lt hn
  · have hk := h.hk
    have hg := hl.1
    obtain ⟨-, -, hc, hw⟩ := h.pr hg hv
    refine ⟨2 * (g + 1) + v, by omega, z, hc, ?_⟩
    rcases hw with ⟨-, z⟩ | ⟨a, ha, -, z⟩
    · exact Or.inl z
    · exact Or.inr ⟨a, ha, z⟩
end GRS
