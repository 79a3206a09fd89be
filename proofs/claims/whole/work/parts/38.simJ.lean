section SIMJ
variable {k : Nat} {I J I' J' : gI} {P : gP} {LG : Option Nat} {LP : Option (Nat × Nat)} {g v : Nat}
theorem dbg_sim {w t' : Int32} (h : Rb k I J P LG LP) (hgk : g < k) (hv : v < 2) (h8 : w &&& 15 = 8) (ha : I (pr g v) 3 = -1) (ht : ∃ t, t < 256 ∧ t' = nI t) : stR k P LG LP g v (2, iu (iu I (pr g v) 2 (J (ma 10) (4 * (2 * (g + 1) + v) + wA w))) (pr g v) 1 t') (2, mEnd J (2 * (g + 1) + v) w t') := by
  obtain ⟨r1, r2, r3, r4⟩ := h.pr hgk hv
  have h9 : ¬ w &&& 15 = 9 := by rw [h8]; decide
  refine ⟨rfl, Rb_proc h hgk hv (fun n f n1 n2 n3 => ?_) (fun n f m1 m2 m3 m4 => ?_) ⟨fun a ha => ?_, ?_, ?_, ?_⟩, ?_, fun z => absurd (show (2 : Int32) = 0 from z) (by decide)⟩
  · show iu (iu I (pr g v) 2 (J (ma 10) (4 * (2 * (g + 1) + v) + wA w))) (pr g v) 1 t' n f = I n f
    rw [iu_n _ _ _ n1, iu_n _ _ _ n1]
  · show mEnd J (2 * (g + 1) + v) w t' n f = J n f
    rw [mEnd, iu_at, if_neg m3, iu_at, if_neg m4, iu_at, if_neg m2]
  · show iu (iu I (pr g v) 2 (J (ma 10) (4 * (2 * (g + 1) + v) + wA w))) (pr g v) 1 t' (rg g v) a = mEnd J (2 * (g + 1) + v) w t' (ma 10) _
    rw [iu_n _ _ _ (by simp), iu_n _ _ _ (by simp), mEnd_o (by simp) (by simp) (by simp)]
    exact r1 a ha
  · show iu (iu I (pr g v) 2 (J (ma 10) (4 * (2 * (g + 1) + v) + wA w))) (pr g v) 1 t' (pr g v) 1 = mEnd J (2 * (g + 1) + v) w t' (ma 11) _
    simp [mEnd, iu_at]
  · obtain ⟨t, ht, et⟩ := ht
    exact ⟨t, ht, by simp [mEnd, iu_at, et]⟩
  · exact Or.inl ⟨by simp [iu_at]; exact ha, by simp [mEnd, iu_at, h9]⟩
  · show iu (iu I (pr g v) 2 (J (ma 10) (4 * (2 * (g + 1) + v) + wA w))) (pr g v) 1 t' (pr g v) 2 = mEnd J (2 * (g + 1) + v) w t' mo 14
    rw [mEnd, iu_n _ _ _ (show mo ≠ ma 12 by simp), iu_at, iu_at, iu_at, if_neg (by simp), if_pos ⟨rfl, rfl⟩, if_pos ⟨rfl, rfl⟩, if_pos h8]
theorem ask_sim {w t' : Int32} (h : Rb k I J P LG LP) (hgk : g < k) (hv : v < 2) (h9 : w &&& 15 = 9) (hi : I (pr g v) 2 = 0) (ht : ∃ t, t < 256 ∧ t' = nI t) : stR k P LG LP g v (3, iu (iu I (pr g v) 3 (nI (wA w))) (pr g v) 1 t') (3, mEnd J (2 * (g + 1) + v) w t') := by
  obtain ⟨r1, r2, r3, r4⟩ := h.pr hgk hv
  have h8 : ¬ w &&& 15 = 8 := by rw [h9]; decide
  refine ⟨rfl, Rb_proc h hgk hv (fun n f n1 n2 n3 => ?_) (fun n f m1 m2 m3 m4 => ?_) ⟨fun a ha => ?_, ?_, ?_, ?_⟩, ?_, fun z => absurd (show (3 : Int32) = 0 from z) (by decide)⟩
  · show iu (iu I (pr g v) 3 (nI (wA w))) (pr g v) 1 t' n f = I n f
    rw [iu_n _ _ _ n1, iu_n _ _ _ n1]
  · show mEnd J (2 * (g + 1) + v) w t' n f = J n f
    rw [mEnd, iu_at, if_neg m3, iu_at, if_neg m4, iu_at, if_neg m2]
  · show iu (iu I (pr g v) 3 (nI (wA w))) (pr g v) 1 t' (rg g v) a = mEnd J (2 * (g + 1) + v) w t' (ma 10) _
    rw [iu_n _ _ _ (by simp), iu_n _ _ _ (by simp), mEnd_o (by simp) (by simp) (by simp)]
    exact r1 a ha
  · show iu (iu I (pr g v) 3 (nI (wA w))) (pr g v) 1 t' (pr g v) 1 = mEnd J (2 * (g + 1) + v) w t' (ma 11) _
    simp [mEnd, iu_at]
  · obtain ⟨t, ht, et⟩ := ht
    exact ⟨t, ht, by simp [mEnd, iu_at, et]⟩
  · refine Or.inr ⟨wA w, wA_lt w, ?_, ?_⟩
    · show iu (iu I (pr g v) 3 (nI (wA w))) (pr g v) 1 t' (pr g v) 3 = _
      rw [iu_at, if_neg (by simp), iu_at, if_pos ⟨rfl, rfl⟩]
    · show mEnd J (2 * (g + 1) + v) w t' (ma 12) _ = _
      rw [mEnd, iu_at, if_pos ⟨rfl, rfl⟩, if_pos h9, show (1 : Int32) = nI 1 from rfl, nI_add, Nat.add_comm]
  · show iu (iu I (pr g v) 3 (nI (wA w))) (pr g v) 1 t' (pr g v) 2 = mEnd J (2 * (g + 1) + v) w t' mo 14
    rw [mEnd, iu_n _ _ _ (show mo ≠ ma 12 by simp), iu_at, iu_at, iu_at, if_neg (by simp), if_neg (by simp), if_pos ⟨rfl, rfl⟩, if_neg h8]
    exact hi
theorem perf_sim (h : Rb k I J P LG LP) (hl : liv J k g) (hv : v < 2) (hi : I (pr g v) 2 = 0) (hij : I (pr g v) 2 = J mo 14) (ha : I (pr g v) 3 = -1) (w : Int32) : stR k P LG LP g v (sPerf I P g v w) (mPerf J (2 * (g + 1) + v) w) := by
  have hgk := hl.1
  obtain ⟨r1, r2, r3, r4⟩ := h.pr hgk hv
  have hc : (2 * (g + 1) + v) / 2 = g + 1 := by omega
  have hA := wA_lt w
  have rA := r1 _ hA
  have rB := r1 _ (wB_lt w)
  have eN : sNext I g v = mNext J (2 * (g + 1) + v) := by
    show (I (pr g v) 1 + 1) &&& 255 = (J (ma 11) (2 * (g + 1) + v) + 1) &&& 255
    rw [r2]
  have hN : ∃ t, t < 256 ∧ mNext J (2 * (g + 1) + v) = nI t := and255 _
  have hreg : ∀ x, Rb k (iu I (rg g v) (wA w) x) (iu J (ma 10) (4 * (2 * (g + 1) + v) + wA w) x) P LG LP := fun x => Rb_reg h hgk hv hA x
  have hi' : ∀ a x, iu I (rg g v) a x (pr g v) 2 = 0 := fun a x => by rw [iu_n _ _ _ (by simp)]; exact hi
  have ha' : ∀ a x, iu I (rg g v) a x (pr g v) 3 = -1 := fun a x => by rw [iu_n _ _ _ (by simp)]; exact ha
  have nn : ∀ n : Nat, n < 16 → w &&& 15 = nI n → ¬ n = 8 → ¬ n = 9 → (¬ w &&& 15 = 8) ∧ ¬ w &&& 15 = 9 := fun n hn e n8 n9 => by
    rw [e]
    exact ⟨fun z => n8 (n32 (b := 8) (by omega) (by decide) z), fun z => n9 (n32 (b := 9) (by omega) (by decide) z)⟩
  unfold sPerf mPerf
  rw [hc, rA, rB, eN]
  by_cases o0 : w &&& 15 = 0
  · obtain ⟨n8, n9⟩ := nn 0 (by omega) o0 (by omega) (by omega)
    rw [if_pos o0, if_pos o0]
    exact end_sim h hgk hv n8 n9 hi ha hN
  rw [if_neg o0, if_neg o0]
  by_cases o1 : w &&& 15 = 1
  · obtain ⟨n8, n9⟩ := nn 1 (by omega) o1 (by omega) (by omega)
    rw [if_pos o1, if_pos o1]
    exact end_sim (hreg _) hgk hv n8 n9 (hi' _ _) (ha' _ _) hN
  rw [if_neg o1, if_neg o1]
  by_cases o2 : w &&& 15 = 2
  · obtain ⟨n8, n9⟩ := nn 2 (by omega) o2 (by omega) (by omega)
    rw [if_pos o2, if_pos o2]
    exact end_sim (hreg _) hgk hv n8 n9 (hi' _ _) (ha' _ _) hN
  rw [if_neg o2, if_neg o2]
  by_cases o34 : w &&& 15 = 3 ∨ w &&& 15 = 4
  · rw [if_pos o34]
    obtain ⟨t, ht, et⟩ := and255 (J (ma 10) (4 * (2 * (g + 1) + v) + wB w) + wI w)
    rw [et, ix_nI (show t < 2 ^ 31 by omega)]
    by_cases o3 : w &&& 15 = 3
    · obtain ⟨n8, n9⟩ := nn 3 (by omega) o3 (by omega) (by omega)
      rw [if_pos o3]
      cases hP : P g (t / 4) with
      | none =>
        have em : sMove I P g v (w &&& 15 = 3) (wA w) t = (1, sFault I g v (nI t)) := by simp only [sMove, hP]
        rw [em, word_no h hl ht hP, if_pos rfl, if_pos m1_lt]
        exact fault_sim h hgk hv
      | some q =>
        obtain ⟨ew, hq, eq⟩ := word_yes h hl ht hP
        have em : sMove I P g v (w &&& 15 = 3) (wA w) t = (0, iu I (rg g v) (wA w) (I (wd q) (t % 4))) := by simp only [sMove, hP]; rw [if_pos o3]
        rw [em, ew, if_neg (show ¬ ((0 : Int32), iu I (rg g v) (wA w) (I (wd q) (t % 4))).1 = 1 from (by decide : ¬ (0 : Int32) = 1)), if_neg (show ¬ (nI (4 * q + t % 4), J).1 < 0 from nI_pos (by omega)), eq]
        show stR k P LG LP g v (0, iu (iu I (rg g v) (wA w) (J (ma 0) (4 * q + t % 4))) (pr g v) 1 _) (0, mEnd (iu J (ma 10) (4 * (2 * (g + 1) + v) + wA w) (J (ma 0) (ix (nI (4 * q + t % 4))))) _ w _)
        rw [ix_nI (show 4 * q + t % 4 < 2 ^ 31 by omega)]
        exact end_sim (hreg _) hgk hv n8 n9 (hi' _ _) (ha' _ _) hN
    · have o4 := o34.resolve_left o3
      obtain ⟨n8, n9⟩ := nn 4 (by omega) o4 (by omega) (by omega)
      rw [if_neg o3, if_pos o4]
      cases hP : P g (t / 4) with
      | none =>
        have em : sMove I P g v (w &&& 15 = 3) (wA w) t = (1, sFault I g v (nI t)) := by simp only [sMove, hP]
        rw [em, word_no h hl ht hP, if_pos rfl, if_pos m1_lt]
        exact fault_sim h hgk hv
      | some q =>
        obtain ⟨ew, hq, eq⟩ := word_yes h hl ht hP
        have em : sMove I P g v (w &&& 15 = 3) (wA w) t = (0, iu I (wd q) (t % 4) (J (ma 10) (4 * (2 * (g + 1) + v) + wA w))) := by simp only [sMove, hP]; rw [if_neg o3, rA]
        rw [em, ew, if_neg (show ¬ ((0 : Int32), iu I (wd q) (t % 4) (J (ma 10) (4 * (2 * (g + 1) + v) + wA w))).1 = 1 from (by decide : ¬ (0 : Int32) = 1)), if_neg (show ¬ (nI (4 * q + t % 4), J).1 < 0 from nI_pos (by omega))]
        show stR k P LG LP g v (0, iu (iu I (wd q) (t % 4) (J (ma 10) (4 * (2 * (g + 1) + v) + wA w))) (pr g v) 1 _) (0, mEnd (iu J (ma 0) (ix (nI (4 * q + t % 4))) (J (ma 10) (4 * (2 * (g + 1) + v) + wA w))) _ w _)
        rw [ix_nI (show 4 * q + t % 4 < 2 ^ 31 by omega)]
        exact end_sim (Rb_word h hq (by omega) _) hgk hv n8 n9 (by rw [iu_n _ _ _ (by simp)]; exact hi) (by rw [iu_n _ _ _ (by simp)]; exact ha) hN
  rw [if_neg o34, if_neg (fun z => o34 (Or.inl z)), if_neg (fun z => o34 (Or.inr z))]
  by_cases o5 : w &&& 15 = 5
  · obtain ⟨n8, n9⟩ := nn 5 (by omega) o5 (by omega) (by omega)
    rw [if_pos o5, if_pos o5]
    refine end_sim h hgk hv n8 n9 hi ha ?_
    split
    · exact hN
    · exact and255 _
  rw [if_neg o5, if_neg o5]
  by_cases o67 : w &&& 15 = 6 ∨ w &&& 15 = 7
  · obtain ⟨n8, n9⟩ : (¬ w &&& 15 = 8) ∧ ¬ w &&& 15 = 9 := by
      rcases o67 with z | z
      · exact nn 6 (by omega) z (by omega) (by omega)
      · exact nn 7 (by omega) z (by omega) (by omega)
    rw [if_pos o67, if_pos o67]
    obtain ⟨t, ht, et⟩ := pk_andE (m := 63) (J (ma 10) (4 * (2 * (g + 1) + v) + wA w)) 6 (by decide)
    rw [et, ix_nI (show t < 2 ^ 31 by omega)]
    obtain ⟨t1, t2, t3⟩ := turn_sim (I := I) (P := P) h hl (t := t) (by omega) (bz_01 (w &&& 15 = 6))
    rw [t1]
    exact end_sim (Rb_reg t2 hgk hv hA _) hgk hv n8 n9 (by rw [iu_n _ _ _ (by simp), t3 _ (by simp)]; exact hi) (by rw [iu_n _ _ _ (by simp), t3 _ (by simp)]; exact ha) hN
  rw [if_neg o67, if_neg o67]
  by_cases o8 : w &&& 15 = 8
  · rw [if_pos o8, if_pos o8]
    exact dbg_sim h hgk hv o8 ha hN
  rw [if_neg o8, if_neg o8]
  by_cases o9 : w &&& 15 = 9
  · rw [if_pos o9, if_pos o9]
    exact ask_sim h hgk hv o9 hi hN
  rw [if_neg o9, if_neg o9]
  by_cases o10 : w &&& 15 = 10
  · rw [if_pos o10, if_pos o10]
    exact end_sim (hreg _) hgk hv o8 o9 (hi' _ _) (ha' _ _) hN
  rw [if_neg o10, if_neg o10]
  exact ⟨rfl, h, hij, fun _ => ⟨hi, ha⟩⟩
theorem step_sim (h : Rb k I J P LG LP) (hl : liv J k g) (hv : v < 2) (hi : I (pr g v) 2 = 0) (hij : I (pr g v) 2 = J mo 14) (ha : I (pr g v) 3 = -1) : stR k P LG LP g v (sStep P g v I) (mStep (2 * (g + 1) + v) J) := by
  have hgk := hl.1
  obtain ⟨r1, r2, ⟨t, ht, et⟩, r4⟩ := h.pr hgk hv
  have et' : J (ma 11) (2 * (g + 1) + v) = nI t := et
  have hc : (2 * (g + 1) + v) / 2 = g + 1 := by omega
  have ei : I (pr g v) 1 = nI t := r2.trans et
  unfold mStep
  rw [hc, et', ix_nI (show t < 2 ^ 31 by omega)]
  cases hP : P g (t / 4) with
  | none =>
    have es : sStep P g v I = (1, sFault I g v (nI t)) := by
      simp only [sStep, ei, ix_nI (show t < 2 ^ 31 by omega), hP]
    rw [es, word_no h hl ht hP, if_pos m1_lt]
    exact fault_sim h hgk hv
  | some q =>
    obtain ⟨ew, hq, eq⟩ := word_yes h hl ht hP
    have es : sStep P g v I = sPerf I P g v (I (wd q) (t % 4)) := by
      simp only [sStep, ei, ix_nI (show t < 2 ^ 31 by omega), hP]
    rw [es, ew, if_neg (show ¬ (nI (4 * q + t % 4), J).1 < 0 from nI_pos (by omega)), eq]
    show stR k P LG LP g v _ (mPerf J _ (J (ma 0) (ix (nI (4 * q + t % 4)))))
    rw [ix_nI (show 4 * q + t % 4 < 2 ^ 31 by omega)]
    exact perf_sim h hl hv hi hij ha _
theorem ld_some (h : Rb k I J P LG LP) (e : LP = some (g, v)) : liv J k g ∧ v < 2 ∧ J mo 13 = nI (2 * (g + 1) + v) := by
  rcases h.ld with ⟨z, -, -⟩ | ⟨g', v', hl, hv, -, z, e3⟩
  · rw [z] at e; cases e
  · rw [z] at e; cases e; exact ⟨hl, hv, e3⟩
theorem steps_sim (e : LP = some (g, v)) : ∀ (n : Nat) (I J : gI), Rb k I J P LG LP → I (pr g v) 2 = 0 → I (pr g v) 2 = J mo 14 → I (pr g v) 3 = -1 → stR k P LG LP g v (stepsN (sStep P g v) n I) (stepsN (mStep (2 * (g + 1) + v)) n J)
  | 0, I, J, h, hi, hij, ha => ⟨rfl, h, hij, fun _ => ⟨hi, ha⟩⟩
  | n + 1, I, J, h, hi, hij, ha => by
    obtain ⟨hl, hv, -⟩ := ld_some h e
    have s := step_sim h hl hv hi hij ha
    obtain ⟨s1, s2, s3, s4⟩ := s
    show stR k P LG LP g v (if (sStep P g v I).1 = 0 then stepsN (sStep P g v) n (sStep P g v I).2 else sStep P g v I) (if (mStep (2 * (g + 1) + v) J).1 = 0 then stepsN (mStep (2 * (g + 1) + v)) n (mStep (2 * (g + 1) + v) J).2 else mStep (2 * (g + 1) + v) J)
    by_cases z : (mStep (2 * (g + 1) + v) J).1 = 0
    · rw [if_pos (s1.trans z), if_pos z]
      obtain ⟨s5, s6⟩ := s4 z
      exact steps_sim e n _ _ s2 s5 s3 s6
    · rw [if_neg (fun y => z (s1.symm.trans y)), if_neg z]
      exact ⟨s1, s2, s3, s4⟩
theorem ans_sim (h : Rb k I J P LG LP) (hl : liv J k g) (hv : v < 2) (x : Int32) : Rb k (sAns I g v x) (mAns J (2 * (g + 1) + v) x) P LG LP ∧ sAns I g v x (pr g v) 3 = -1 := by
  have hgk := hl.1
  obtain ⟨r1, r2, r3, r4⟩ := h.pr hgk hv
  rcases r4 with ⟨z1, z2⟩ | ⟨a, ha, z1, z2⟩
  · have e1 : sAns I g v x = I := if_pos z1
    have e2 : mAns J (2 * (g + 1) + v) x = J := if_pos (by rw [z2]; decide)
    rw [e1, e2]
    exact ⟨h, z1⟩
  · have e1 : sAns I g v x = iu (iu I (rg g v) a x) (pr g v) 3 (-1) := by
      unfold sAns
      rw [if_neg (by rw [z1]; exact nI_neg (by omega)), z1, ix_nI (by omega)]
    have e2 : mAns J (2 * (g + 1) + v) x = iu (iu J (ma 10) (4 * (2 * (g + 1) + v) + a) x) (ma 12) (2 * (g + 1) + v) 0 := by
      unfold mAns
      rw [z2, if_neg (nI_nle (by omega) (by omega)), ix_nI (by omega), show 4 * (2 * (g + 1) + v) + (a + 1) - 1 = 4 * (2 * (g + 1) + v) + a by omega]
    rw [e1, e2]
    have h1 := Rb_reg h hgk hv ha x
    obtain ⟨q1, q2, q3, q4⟩ := h1.pr hgk hv
    refine ⟨Rb_proc h1 hgk hv (fun n f n1 n2 n3 => by rw [iu_n _ _ _ n1]) (fun n f m1 m2 m3 m4 => by rw [iu_at, if_neg m3]) ⟨fun b hb => ?_, ?_, ?_, ?_⟩, by rw [iu_at, if_pos ⟨rfl, rfl⟩]⟩
    · rw [iu_n _ _ _ (show rg g v ≠ pr g v by simp), iu_n _ _ _ (show ma 10 ≠ ma 12 by simp)]
      exact q1 b hb
    · rw [iu_at, if_neg (by simp), iu_n _ _ _ (show ma 11 ≠ ma 12 by simp)]
      exact q2
    · rw [ctOK, iu_n _ _ _ (show ma 11 ≠ ma 12 by simp)]
      exact q3
    · exact Or.inl ⟨by rw [iu_at, if_pos ⟨rfl, rfl⟩], by rw [iu_at, if_pos ⟨rfl, rfl⟩]⟩
theorem Rb_inf (h : Rb k I J P LG LP) (hl : liv J k g) (hv : v < 2) (x y : Int32) : Rb k (iu I (pr g v) 2 x) (iu J mo 14 y) P LG LP := by
  have hgk := hl.1
  obtain ⟨r1, r2, r3, r4⟩ := h.pr hgk hv
  refine Rb_proc h hgk hv (fun n f n1 n2 n3 => by rw [iu_n _ _ _ n1]) (fun n f m1 m2 m3 m4 => by rw [iu_at, if_neg m4]) ⟨fun b hb => ?_, ?_, ?_, ?_⟩
  · rw [iu_n _ _ _ (show rg g v ≠ pr g v by simp), iu_n _ _ _ (show ma 10 ≠ mo by simp)]
    exact r1 b hb
  · rw [iu_at, if_neg (by simp), iu_n _ _ _ (show ma 11 ≠ mo by simp)]
    exact r2
  · rw [ctOK, iu_n _ _ _ (show ma 11 ≠ mo by simp)]
    exact r3
  · rw [iu_at, if_neg (by simp), iu_n _ _ _ (show ma 12 ≠ mo by simp)]
    exact r4
theorem Rb_kp5 (h : Rb k I J P LG LP) (hl : liv J k g) (hv : v < 2) (x : Int32) : Rb k (iu I kp 5 x) J P LG LP := by
  have hgk := hl.1
  refine Rb_proc h hgk hv (fun n f n1 n2 n3 => by rw [iu_at, if_neg n3]) (fun n f m1 m2 m3 m4 => rfl) ?_
  have := h.pr hgk hv
  unfold Rpr at this ⊢
  rw [iu_n _ _ _ (show rg g v ≠ kp by simp), iu_n _ _ _ (show pr g v ≠ kp by simp)]
  exact this
theorem sim_run (h : gR k I J P LG LP) (n x : Int32) : (cRun I P LP n x).1 = (mRun J n x).1 ∧ gR k (cRun I P LP n x).2 (mRun J n x).2 P LG LP := by
  cases hLP : LP with
  | none =>
    have hn := (ld_neg h.1).mpr hLP
    rw [hLP] at h
    unfold mRun
    rw [if_pos (Or.inl hn)]
    exact ⟨rfl, h⟩
  | some q =>
    obtain ⟨g, v⟩ := q
    obtain ⟨hl, hv, e13⟩ := ld_some h.1 hLP
    have hk := h.1.hk
    have hgk := hl.1
    rw [← hLP]
    have hnn : ¬ J mo 13 < 0 := by rw [e13]; exact nI_pos (by omega)
    have hix : ix (J mo 13) = 2 * (g + 1) + v := by rw [e13]; exact ix_nI (by omega)
    unfold mRun
    by_cases z : n < 1 ∨ 64 < n
    · have e1 : cRun I P LP n x = (-1, I) := by rw [hLP]; exact if_pos z
      rw [e1, if_pos (Or.inr z)]
      exact ⟨rfl, h⟩
    · have e1 : cRun I P LP n x = ((sMk P g v (sAns I g v x) (ix n)).1, iu (sMk P g v (sAns I g v x) (ix n)).2 kp 5 ((sMk P g v (sAns I g v x) (ix n)).2 (pr g v) 2)) := by rw [hLP]; exact if_neg z
      rw [e1, if_neg (fun y => by rcases y with y | y; exact hnn y; exact z y), hix]
      obtain ⟨a1, a2⟩ := ans_sim h.1 hl hv x
      have hl2 := (ld_some a1 hLP).1
      have b1 := Rb_inf a1 hl2 hv 0 0
      obtain ⟨s1, s2, s3, -⟩ := steps_sim hLP (ix n) _ _ b1 (by rw [iu_at, if_pos ⟨rfl, rfl⟩]) (by rw [iu_at, if_pos ⟨rfl, rfl⟩, iu_at, if_pos ⟨rfl, rfl⟩]) (by rw [iu_at, if_neg (by simp)]; exact a2)
      unfold sMk
      generalize stepsN (sStep P g v) (ix n) (iu (sAns I g v x) (pr g v) 2 0) = R at s1 s2 s3 ⊢
      generalize stepsN (mStep (2 * (g + 1) + v)) (ix n) (iu (mAns J (2 * (g + 1) + v) x) mo 14 0) = S at s1 s2 s3 ⊢
      refine ⟨s1, Rb_kp5 s2 (ld_some s2 hLP).1 hv _, ?_⟩
      show iu R.2 kp 5 (R.2 (pr g v) 2) kp 5 = S.2 mo 14
      rw [iu_at, if_pos ⟨rfl, rfl⟩]
      exact s3
end SIMJ
