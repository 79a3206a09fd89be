/-! numbers, searches, counts -/
theorem findF_no {f : Nat → Bool} : ∀ (n a : Nat), (∀ i, a ≤ i → i < a + n → f i = false) → findF f n a = -1
  | 0, _, _ => rfl
  | n + 1, a, h => by
    simp only [findF, h a (Nat.le_refl _) (by omega)]
    exact findF_no n (a + 1) (fun i h1 h2 => h i (by omega) (by omega))
theorem findF_yes {f : Nat → Bool} {q : Nat} (hf : f q = true) : ∀ (n a : Nat), a ≤ q → q < a + n → (∀ i, a ≤ i → i < a + n → f i = true → i = q) → findF f n a = nI q
  | 0, a, h1, h2, _ => by omega
  | n + 1, a, h1, h2, hu => by
    by_cases ha : f a = true
    · have := hu a (Nat.le_refl _) (by omega) ha
      subst this
      simp [findF, ha]
    · have hne : a ≠ q := fun z => ha (by rw [z]; exact hf)
      simp only [findF, ha]
      exact findF_yes hf n (a + 1) (by omega) (by omega) (fun i h3 h4 h5 => hu i (by omega) (by omega) h5)
theorem cntB_or {f : Nat → Bool} {b : Nat} : ∀ n, b < n → cntB (fun t => decide (b = t) || f t) n = cntB f n + (if f b = true then 0 else 1) := by
  have low : ∀ n, n ≤ b → cntB (fun t => decide (b = t) || f t) n = cntB f n := fun n hn => cntB_congr (fun i hi => by
    have : b ≠ i := by omega
    simp [this])
  intro n
  induction n with
  | zero => intro h; omega
  | succ n ih =>
    intro h
    by_cases hb : b = n
    · subst hb
      simp only [cntB, low b (Nat.le_refl _)]
      by_cases hf : f b = true
      · simp [hf]
      · simp [hf]
    · simp only [cntB, ih (by omega)]
      have : decide (b = n) = false := by simp [hb]
      simp only [this, Bool.false_or]
      omega
theorem n32 {a b : Nat} (ha : a < 2 ^ 31) (hb : b < 2 ^ 31) (h : nI a = nI b) : a = b := (nI_eq ha hb).mp h
theorem m1_lt : (-1 : Int32) < 0 := by decide
theorem nI_neg {j : Nat} (h : j < 2 ^ 31) : ¬ nI j = -1 := fun q => absurd (q ▸ m1_lt) (nI_pos h)
section PU
variable {J : gI} {G : Int32}
theorem held_no {a : Int32} (h : ∀ q, q < 24 → ¬ mIs J G a q) : mHeld J G a = -1 := findF_no 24 0 (fun i _ hi => by
  have := h i (by omega)
  simp [this])
theorem held_yes {a : Int32} {q : Nat} (hq : q < 24) (h : mIs J G a q) (hu : ∀ q', q' < 24 → mIs J G a q' → q' = q) : mHeld J G a = nI q := findF_yes (by simp [h]) 24 0 (by omega) (by omega) (fun i _ hi hf => hu i (by omega) (by simpa using hf))
end PU
/-- what the places of a living guest are -/
def plOK (J : gI) (P : gP) (g : Nat) (G : Int32) : Prop := ∀ a, a < 64 → ∀ q, P g a = some q ↔ (q < 24 ∧ mIs J G (nI a) q)
/-- a page that somebody holds lies at a place -/
def rngOK (J : gI) : Prop := ∀ q, q < 24 → mHolder J q = 0 ∨ ∃ a, a < 64 ∧ J (ma 4) q = nI a
section PL
variable {J : gI} {P : gP} {g : Nat} {G : Int32}
theorem plOK.uniq (h : plOK J P g G) {a q q' : Nat} (ha : a < 64) (h1 : q < 24) (h2 : mIs J G (nI a) q) (h3 : q' < 24) (h4 : mIs J G (nI a) q') : q' = q := by
  have e1 := (h a ha q).mpr ⟨h1, h2⟩
  have e2 := (h a ha q').mpr ⟨h3, h4⟩
  exact Option.some.inj (e2.symm.trans e1)
theorem plOK.held (h : plOK J P g G) {a : Nat} (ha : a < 64) : mHeld J G (nI a) = match P g a with | none => -1 | some q => nI q := by
  cases hP : P g a with
  | none =>
    exact held_no (fun q hq hi => by
      have := (h a ha q).mpr ⟨hq, hi⟩
      rw [hP] at this
      cases this)
  | some q =>
    obtain ⟨h1, h2⟩ := (h a ha q).mp hP
    exact held_yes h1 h2 (fun q' h3 h4 => h.uniq ha h1 h2 h3 h4)
theorem blk {J : gI} {q z t : Nat} (hz : z = 4 ∨ z = 16) (ht : t < 64 / z) {a : Nat} (ha : a < 64) (he : J (ma 4) q = nI a) : J (ma 4) q / nI z = nI t ↔ a / z = t := by
  have hz0 : 0 < z := by omega
  have hz1 : z < 2 ^ 31 := by omega
  rw [he, pk_div (by omega) hz0 hz1, nI_eq (by have := Nat.div_le_self a z; omega) (by have := Nat.div_le_self 64 z; omega)]
theorem nd_some (h : plOK J P g G) (hG : ¬ G = 0) (hr : rngOK J) {z t : Nat} (hz : z = 4 ∨ z = 16) (ht : t < 64 / z) : sNd P g t z = anyB (fun p => decide (mBlk J G z t p)) 24 := by
  rw [Bool.eq_iff_iff]
  simp only [sNd, anyB_iff, decide_eq_true_eq]
  constructor
  · rintro ⟨i, hi, hs⟩
    obtain ⟨q, hq⟩ := Option.isSome_iff_exists.mp hs
    have hlt : t * z + i < 64 := by
      rcases hz with rfl | rfl <;> omega
    obtain ⟨h1, h2, h3⟩ := (h _ hlt q).mp hq
    refine ⟨q, h1, h2, (blk hz ht hlt h3).mpr ?_⟩
    rcases hz with rfl | rfl <;> omega
  · rintro ⟨q, hq, hh, hp⟩
    rcases hr q hq with h0 | ⟨a, ha, he⟩
    · exact absurd (hh.symm.trans h0) hG
    · have hat := (blk hz ht ha he).mp hp
      have e1 : P g a = some q := (h a ha q).mpr ⟨hq, hh, he⟩
      refine ⟨a % z, Nat.mod_lt _ (by omega), ?_⟩
      have : t * z + a % z = a := by
        rw [← hat]
        have := Nat.div_add_mod a z
        rw [Nat.mul_comm]; omega
      rw [this, e1]
      rfl
theorem some_m1 {z i : Nat} : mSome J G (-1) z i 24 = anyB (fun p => decide (mBlk J G z i p)) 24 := by
  have : ¬ (¬ (-1 : Int32) < 0 ∧ (-1 : Int32) / nI z = nI i) := fun q => q.1 m1_lt
  simp only [mSome, this, decide_false, Bool.false_or]
theorem cnt_m1 (h : plOK J P g G) (hG : ¬ G = 0) (hr : rngOK J) {z : Nat} (hz : z = 4 ∨ z = 16) : mCnt1 J G (-1) z = sCnt P g z :=
  cntB_congr (fun t ht => by rw [some_m1, nd_some h hG hr hz ht])
theorem cnt_at (h : plOK J P g G) (hG : ¬ G = 0) (hr : rngOK J) {z a : Nat} (hz : z = 4 ∨ z = 16) (ha : a < 64) : mCnt1 J G (nI a) z = sCnt P g z + (if sNd P g (a / z) z = true then 0 else 1) := by
  have hb : a / z < 64 / z := by rcases hz with rfl | rfl <;> omega
  have e : mCnt1 J G (nI a) z = cntB (fun t => decide (a / z = t) || sNd P g t z) (64 / z) := cntB_congr (fun t ht => by
    have h1 : (¬ nI a < 0 ∧ nI a / nI z = nI t) ↔ a / z = t := by
      rw [pk_div (by omega) (by omega) (by omega), nI_eq (by have := Nat.div_le_self a z; omega) (by have := Nat.div_le_self 64 z; omega)]
      exact ⟨fun q => q.2, fun q => ⟨nI_pos (by omega), q⟩⟩
    rw [nd_some h hG hr hz ht]
    simp only [mSome, h1])
  rw [e, cntB_or _ hb]
  rfl
theorem cnt_tab (h : plOK J P g G) (hG : ¬ G = 0) (hr : rngOK J) : mCnt J G (-1) = sTab P g := by
  rw [mCnt, cnt_m1 h hG hr (Or.inl rfl), cnt_m1 h hG hr (Or.inr rfl), sTab, nI_add, Nat.add_comm]
theorem cnt_new (h : plOK J P g G) (hG : ¬ G = 0) (hr : rngOK J) {a : Nat} (ha : a < 64) : mCnt J G (nI a) - mCnt J G (-1) = sNew P g a := by
  rw [mCnt, mCnt, cnt_m1 h hG hr (Or.inl rfl), cnt_m1 h hG hr (Or.inr rfl), cnt_at h hG hr (Or.inl rfl) ha, cnt_at h hG hr (Or.inr rfl) ha, pk_sub (by omega), sNew]
  by_cases h1 : sNd P g (a / 4) 4 = true <;> by_cases h2 : sNd P g (a / 16) 16 = true
  · simp only [h1, h2, if_true]
    rw [show sCnt P g 4 + 0 + (sCnt P g 16 + 0) - (sCnt P g 4 + sCnt P g 16) = 0 by omega]
    rfl
  · simp only [h1, h2, if_true]
    rw [show sCnt P g 4 + 0 + (sCnt P g 16 + if false = true then 0 else 1) - (sCnt P g 4 + sCnt P g 16) = 1 by simp; omega]
    rfl
  · simp only [h1, h2, if_true]
    rw [show sCnt P g 4 + (if false = true then 0 else 1) + (sCnt P g 16 + 0) - (sCnt P g 4 + sCnt P g 16) = 1 by simp; omega]
    rfl
  · simp only [h1, h2]
    rw [show sCnt P g 4 + (if false = true then 0 else 1) + (sCnt P g 16 + if false = true then 0 else 1) - (sCnt P g 4 + sCnt P g 16) = 2 by simp; omega]
    rfl
end PL
