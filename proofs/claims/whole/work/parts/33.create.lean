def gNewI (I : gI) (k : Nat) (x : Int32) : gI := fun n => if 6 ≤ n.1 ∧ n.1 ≤ 10 ∧ n.2.1 = k then gI0 x n else I n
def cCreP (P : gP) (k : Nat) : gP := fun g => if g = k then (fun _ => none) else P g
def cCreI (I : gI) (k : Nat) (x : Int32) : gI := sKeep (iu (gNewI I k (nI (k + 1))) kp 3 (nI (k + 1))) (ix x) (nI (k + 1))
/-- what create answers, and the state behind it -/
def cCre (ad : gN → Nat) (k : Nat) (I J : gI) (P : gP) (LG : Option Nat) (LP : Option (Nat × Nat)) (x : Int32) (r : Int32) (u : gT) : Prop :=
  (¬ sFree I x ∧ r = -1 ∧ u = (ad, k, I, J, P, LG, LP)) ∨ (sFree I x ∧ ¬ I kp 3 < 6 ∧ r = -2 ∧ u = (ad, k, I, J, P, LG, LP)) ∨
  (sFree I x ∧ I kp 3 < 6 ∧ r = nI (k + 1) ∧ ∃ ad2, (∀ n, gD k n → ad2 n = ad n) ∧ u = (ad2, k + 1, cCreI I k x, J, cCreP P k, LG, LP))
theorem gD_up {k : Nat} (n : gN) : gD (k + 1) n ↔ ((gD k n ∨ n = (6, k, 0)) ∨ gNm k n) := by
  obtain ⟨a, b, d⟩ := n
  unfold gNm
  match a with
  | 0 => simp [gD]
  | 1 => simp [gD]
  | 2 => simp [gD]
  | 3 => simp [gD]
  | 4 => simp [gD]
  | 5 => simp [gD]
  | 6 => simp only [gD, Prod.mk.injEq]; simp; omega
  | 7 => simp only [gD, Prod.mk.injEq]; simp; omega
  | 8 => simp only [gD, Prod.mk.injEq]; simp; omega
  | 9 => simp only [gD, Prod.mk.injEq]; simp; omega
  | 10 => simp only [gD, Prod.mk.injEq]; simp; omega
  | 11 => simp [gD]
  | 12 => simp [gD]
  | 13 => simp [gD]
  | a + 14 => simp [gD]
set_option maxHeartbeats 4000000 in
theorem gW_guest {D : va_G} {c : Nat → ClassId} {sz : Nat} {ad ad2 : gN → Nat} {k : Nat} {I J : gI} {P : gP} {LG : Option Nat} {LP : Option (Nat × Nat)} {H : Heap} {x : Int32} {e6 : va_E} (hLG : ∀ g, LG = some g → g < k) (hLP : ∀ q, LP = some q → q.1 < k ∧ q.2 < 2) (hPl : ∀ g a q, P g a = some q → q < 24) (hold : ∀ n, gD k n → ad2 n = ad n)
    (hH : gH D vwCl ad2 (fun n => (gD k n ∨ n = (6, k, 0)) ∨ gNm k n) (gu (gV0 c ad2 k x (gu (gV c ad k I J P LG LP) (6, k, 0) e6)) (4, 0, 0) (.inl (c 3, 6, gRa (va_up (fun g => if g < k then some (ad (6, g, 0)) else none) k (some (ad2 (6, k, 0))))))) (gA sz) H) : gW D c sz ad2 (k + 1) (gNewI I k x) J (cCreP P k) LG LP H := by
  refine gH.congr hH gD_up (fun _ _ => rfl) (fun n hn => ?_)
  obtain ⟨a, b, d⟩ := n
  by_cases hk : 6 ≤ a ∧ a ≤ 10 ∧ b = k
  · obtain ⟨h6, h10, rfl⟩ := hk
    have e1 : (a, b, d) ≠ ((4, 0, 0) : gN) := fun z => by simp at z; omega
    rw [gu_n _ _ e1]
    have hc : 6 ≤ (a, b, d).1 ∧ (a, b, d).1 ≤ 10 ∧ (a, b, d).2.1 = b := ⟨h6, h10, rfl⟩
    simp only [gV0, if_pos hc, gV, gNewI]
    rcases (show a = 6 ∨ a = 7 ∨ a = 8 ∨ a = 9 ∨ a = 10 by omega) with rfl | rfl | rfl | rfl | rfl
    · rfl
    · simp [gE, cCreP]
    · rfl
    · rfl
    · rfl
  · have hc : ¬ (6 ≤ (a, b, d).1 ∧ (a, b, d).1 ≤ 10 ∧ (a, b, d).2.1 = k) := hk
    have hnk : gD k (a, b, d) := by
      rcases hn with (hn | hn) | hn
      · exact hn
      · cases hn
        exact absurd ⟨by decide, by decide, rfl⟩ hk
      · unfold gNm at hn
        rcases hn with hn | hn | hn | hn | hn | hn <;> (cases hn; exact absurd ⟨by decide, by decide, rfl⟩ hk)
    have e6 : (a, b, d) ≠ ((6, k, 0) : gN) := fun z => by cases z; exact hk ⟨by decide, by decide, rfl⟩
    have eI : gNewI I k x (a, b, d) = I (a, b, d) := if_neg hc
    match a, hnk, hk, hc, e6, eI with
    | 0, hnk, hk, hc, e6, eI =>
      obtain ⟨rfl, rfl⟩ := hnk
      rw [gu_n _ _ (by simp)]
      simp only [gV0, if_neg hc, gu_n _ _ e6, gV, eI, gE]
      rw [hold (1, 0, 0) ⟨rfl, rfl⟩, hold (4, 0, 0) ⟨rfl, rfl⟩, hold (5, 0, 0) ⟨rfl, rfl⟩]
      have h1 : (LG.map fun g => ad2 (6, g, 0)) = LG.map fun g => ad (6, g, 0) := by
        cases LG with
        | none => rfl
        | some g => simp only [Option.map_some]; rw [hold (6, g, 0) ⟨hLG g rfl, rfl⟩]
      have h2 : (LP.map fun q => ad2 (9, q.1, q.2)) = LP.map fun q => ad (9, q.1, q.2) := by
        cases LP with
        | none => rfl
        | some q => simp only [Option.map_some]; rw [hold (9, q.1, q.2) (hLP q rfl)]
      rw [h1, h2]
    | 1, hnk, hk, hc, e6, eI =>
      rw [gu_n _ _ (by simp)]
      simp only [gV0, if_neg hc, gu_n _ _ e6, gV, gE]
      congr 4
      funext p
      by_cases hp : p < 24
      · simp only [hp, if_true]; rw [hold (2, p, 0) ⟨hp, rfl⟩]
      · simp only [hp, if_false]
    | 2, hnk, hk, hc, e6, eI =>
      rw [gu_n _ _ (by simp)]
      simp only [gV0, if_neg hc, gu_n _ _ e6, gV, eI, gE]
      rw [hold (3, b, 0) ⟨hnk.1, rfl⟩]
    | 3, hnk, hk, hc, e6, eI =>
      rw [gu_n _ _ (by simp)]
      simp only [gV0, if_neg hc, gu_n _ _ e6, gV, eI, gE]
    | 4, hnk, hk, hc, e6, eI =>
      obtain ⟨rfl, rfl⟩ := hnk
      rw [gu_s]
      simp only [gV, gE]
      congr 4
      funext g
      by_cases hg : g = k
      · subst hg; simp [va_up]
      · by_cases hg2 : g < k
        · have : g < k + 1 := by omega
          simp only [va_up, hg, this, hg2, if_true, if_false]
          rw [hold (6, g, 0) ⟨hg2, rfl⟩]
        · have : ¬ g < k + 1 := by omega
          simp only [va_up, hg, this, hg2, if_false]
    | 5, hnk, hk, hc, e6, eI =>
      rw [gu_n _ _ (by simp)]
      simp only [gV0, if_neg hc, gu_n _ _ e6, gV, eI, gE]
    | 6, hnk, hk, hc, e6, eI =>
      rw [gu_n _ _ (by simp)]
      simp only [gV0, if_neg hc, gu_n _ _ e6, gV, eI, gE]
      rw [hold (7, b, 0) ⟨hnk.1, rfl⟩, hold (8, b, 0) ⟨hnk.1, rfl⟩]
    | 7, hnk, hk, hc, e6, eI =>
      rw [gu_n _ _ (by simp)]
      simp only [gV0, if_neg hc, gu_n _ _ e6, gV, gE]
      have hb : ¬ b = k := fun z => by have := hnk.1; omega
      congr 4
      funext a
      simp only [cCreP, hb, if_false]
      cases hP : P b a with
      | none => rfl
      | some q => simp only [Option.map_some]; rw [hold (2, q, 0) ⟨hPl _ _ _ hP, rfl⟩]
    | 8, hnk, hk, hc, e6, eI =>
      rw [gu_n _ _ (by simp)]
      simp only [gV0, if_neg hc, gu_n _ _ e6, gV, gE]
      congr 4
      funext v
      by_cases hv : v < 2
      · simp only [hv, if_true]; rw [hold (9, b, v) ⟨hnk.1, hv⟩]
      · simp only [hv, if_false]
    | 9, hnk, hk, hc, e6, eI =>
      rw [gu_n _ _ (by simp)]
      simp only [gV0, if_neg hc, gu_n _ _ e6, gV, eI, gE]
      rw [hold (10, b, d) hnk]
    | 10, hnk, hk, hc, e6, eI =>
      rw [gu_n _ _ (by simp)]
      simp only [gV0, if_neg hc, gu_n _ _ e6, gV, eI, gE]
    | 11, hnk, hk, hc, e6, eI =>
      rw [gu_n _ _ (by simp)]
      simp only [gV0, if_neg hc, gu_n _ _ e6, gV, gE]
      rw [hold (12, 0, 0) ⟨by decide, rfl⟩, hold (12, 1, 0) ⟨by decide, rfl⟩, hold (12, 2, 0) ⟨by decide, rfl⟩, hold (12, 3, 0) ⟨by decide, rfl⟩, hold (12, 4, 0) ⟨by decide, rfl⟩, hold (13, 5, 0) ⟨by decide, rfl⟩, hold (13, 6, 0) ⟨by decide, rfl⟩, hold (13, 8, 0) ⟨by decide, rfl⟩, hold (13, 9, 0) ⟨by decide, rfl⟩, hold (12, 10, 0) ⟨by decide, rfl⟩, hold (12, 11, 0) ⟨by decide, rfl⟩, hold (12, 12, 0) ⟨by decide, rfl⟩, hold (12, 15, 0) ⟨by decide, rfl⟩]
    | 12, hnk, hk, hc, e6, eI =>
      rw [gu_n _ _ (by simp)]
      simp only [gV0, if_neg hc, gu_n _ _ e6, gV, gE]
    | 13, hnk, hk, hc, e6, eI =>
      rw [gu_n _ _ (by simp)]
      simp only [gV0, if_neg hc, gu_n _ _ e6, gV, gE]
    | a + 14, hnk, hk, hc, e6, eI => exact hnk.elim
