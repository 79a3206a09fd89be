set_option maxHeartbeats 4000000 in
set_option maxRecDepth 100000 in
theorem law_loop {p : Program} {l : Launch} {e : Env} {s : State} {m : MethodId} {below : List Frame} {meth : Method} {cd : Code} {b L : Nat} {xs : Nat → Int32} {D : va_G} {c : Nat → ClassId} {Q : State → Prop} (hx : p.tables.exec = Jvm.exec) (hb : cd.code = code) (hml : cd.maxLocals = 4) (hown : s.vm.findClass RL = some m.cls) (hw : ∀ w ∈ gWd, w.before #[Value.ref b] s = true) (hX : va_X b L xs s s.heap) (hbl : b < s.heap.size) (hK : gK D c s) (hL : L ≤ 2048) (hexit : ∀ (ls : Array Slot) (H : Heap) (locs : List Loc) (ce sl : Nat), ce ≤ 600000 → sl ≤ 7302250 → va_S (gA s.heap.size) s.heap H locs → W p l e room_1 s m #[Value.ref b] below meth cd H locs ce sl Q (F0 m 675 ls [])) : ∀ (n t : Nat), n + t = 512 → ∀ (ad : gN → Nat) (k : Nat) (I J : gI) (P : gP) (LG : Option Nat) (LP : Option (Nat × Nat)) (ls : Array Slot) (H : Heap) (locs : List Loc), gW D c s.heap.size ad k I J P LG LP H → gR k I J P LG LP → va_S (gA s.heap.size) s.heap H locs → lv_has ls 4 [(3, .int (nI (4 * t))), (2, .ref (ad (11, 0, 0))), (1, .ref (ad (0, 0, 0))), (0, .ref b)] → W p l e room_1 s m #[Value.ref b] below meth cd H locs (66 + 7 * t) (641 + 88 * t) Q (F0 m 18 ls []) := by
  have hbA : ¬ gA s.heap.size b := Nat.not_le.mpr hbl
  intro n
  induction n with
  | zero =>
    intro t ht ad k I J P LG LP ls H locs hH hR hS hl
    refine lv_iload_n hx hb dL_law_18 rfl (lv_at hl 0 rfl) ?_
    refine lv_aload_n hx hb dL_law_19 rfl (lv_at hl 3 rfl) ?_
    refine va_slen hx hb hX hbl hbA hS dL_law_20 ?_
    refine lv_iconst (v := 4) hx hb dL_law_21 (by decide) ?_
    refine lv_isub hx hb dL_law_22 ?_
    refine lv_icmp_gt hx hb dL_law_23 rfl (fun _ => hexit ls H locs _ _ (by omega) (by omega) hS) (fun h => ?_)
    have := law_gt hL (by omega) h
    omega
  | succ n ih =>
    intro t ht ad k I J P LG LP ls H locs hH hR hS hl
    refine lv_iload_n hx hb dL_law_18 rfl (lv_at hl 0 rfl) ?_
    refine lv_aload_n hx hb dL_law_19 rfl (lv_at hl 3 rfl) ?_
    refine va_slen hx hb hX hbl hbA hS dL_law_20 ?_
    refine lv_iconst (v := 4) hx hb dL_law_21 (by decide) ?_
    refine lv_isub hx hb dL_law_22 ?_
    refine lv_icmp_gt hx hb dL_law_23 rfl (fun _ => hexit ls H locs _ _ (by omega) (by omega) hS) (fun h => ?_)
    have ht4 := law_gt hL (by omega) h
    have ih2 := ih (t + 1) (by omega)
    refine lv_aload_n hx hb dL_law_26 rfl (lv_at hl 3 rfl) ?_
    refine lv_iload_n hx hb dL_law_27 rfl (lv_at hl 0 rfl) ?_
    refine l_sld hx hb hX hbl hbA hS (4 * t) rfl (by omega) dL_law_28 ?_
    refine lv_bipush (v := 31) hx hb dL_law_29 (by decide) ?_
    refine lv_iand hx hb dL_law_31 ?_
    obtain ⟨o, ho, eo⟩ := pk_andE (m := 31) (xs (4 * t)) 5 (by decide)
    have ho : o < 32 := ho
    rw [eo]
    rcases (show o = 0 ∨ o = 1 ∨ o = 2 ∨ o = 3 ∨ o = 4 ∨ o = 5 ∨ o = 6 ∨ o = 7 ∨ o = 8 ∨ o = 9 ∨ o = 10 ∨ o = 11 ∨ o = 12 ∨ o = 13 ∨ o = 14 ∨ o = 15 ∨ o = 16 ∨ o = 17 ∨ o = 18 ∨ o = 19 ∨ 19 < o by omega) with rfl | rfl | rfl | rfl | rfl | rfl | rfl | rfl | rfl | rfl | rfl | rfl | rfl | rfl | rfl | rfl | rfl | rfl | rfl | rfl | hbig
    · exact lv_tableIn (off := 96) (tgt := 128) hx hb dL_law_32 (by decide) (by decide) (by decide) (by decide) (law_0 hx hb hml hown hw hX hbl hK hL ht4 hH hR hS hl ih2)
    · exact lv_tableIn (off := 130) (tgt := 162) hx hb dL_law_32 (by decide) (by decide) (by decide) (by decide) (law_1 hx hb hml hown hw hX hbl hK hL ht4 hH hR hS hl ih2)
    · exact lv_tableIn (off := 173) (tgt := 205) hx hb dL_law_32 (by decide) (by decide) (by decide) (by decide) (law_2 hx hb hml hown hw hX hbl hK hL ht4 hH hR hS hl ih2)
    · exact lv_tableIn (off := 186) (tgt := 218) hx hb dL_law_32 (by decide) (by decide) (by decide) (by decide) (law_3 hx hb hml hown hw hX hbl hK hL ht4 hH hR hS hl ih2)
    · exact lv_tableIn (off := 209) (tgt := 241) hx hb dL_law_32 (by decide) (by decide) (by decide) (by decide) (law_4 hx hb hml hown hw hX hbl hK hL ht4 hH hR hS hl ih2)
    · exact lv_tableIn (off := 242) (tgt := 274) hx hb dL_law_32 (by decide) (by decide) (by decide) (by decide) (law_5 hx hb hml hown hw hX hbl hK hL ht4 hH hR hS hl ih2)
    · exact lv_tableIn (off := 285) (tgt := 317) hx hb dL_law_32 (by decide) (by decide) (by decide) (by decide) (law_6 hx hb hml hown hw hX hbl hK hL ht4 hH hR hS hl ih2)
    · exact lv_tableIn (off := 328) (tgt := 360) hx hb dL_law_32 (by decide) (by decide) (by decide) (by decide) (law_7 hx hb hml hown hw hX hbl hK hL ht4 hH hR hS hl ih2)
    · exact lv_tableIn (off := 351) (tgt := 383) hx hb dL_law_32 (by decide) (by decide) (by decide) (by decide) (law_8 hx hb hml hown hw hX hbl hK hL ht4 hH hR hS hl ih2)
    · exact lv_tableIn (off := 374) (tgt := 406) hx hb dL_law_32 (by decide) (by decide) (by decide) (by decide) (law_9 hx hb hml hown hw hX hbl hK hL ht4 hH hR hS hl ih2)
    · exact lv_tableIn (off := 397) (tgt := 429) hx hb dL_law_32 (by decide) (by decide) (by decide) (by decide) (law_10 hx hb hml hown hw hX hbl hK hL ht4 hH hR hS hl ih2)
    · exact lv_tableIn (off := 430) (tgt := 462) hx hb dL_law_32 (by decide) (by decide) (by decide) (by decide) (law_11 hx hb hml hown hw hX hbl hK hL ht4 hH hR hS hl ih2)
    · exact lv_tableIn (off := 443) (tgt := 475) hx hb dL_law_32 (by decide) (by decide) (by decide) (by decide) (law_12 hx hb hml hown hw hX hbl hK hL ht4 hH hR hS hl ih2)
    · exact lv_tableIn (off := 476) (tgt := 508) hx hb dL_law_32 (by decide) (by decide) (by decide) (by decide) (law_13 hx hb hml hown hw hX hbl hK hL ht4 hH hR hS hl ih2)
    · exact lv_tableIn (off := 489) (tgt := 521) hx hb dL_law_32 (by decide) (by decide) (by decide) (by decide) (law_14 hx hb hml hown hw hX hbl hK hL ht4 hH hR hS hl ih2)
    · exact lv_tableIn (off := 522) (tgt := 554) hx hb dL_law_32 (by decide) (by decide) (by decide) (by decide) (law_15 hx hb hml hown hw hX hbl hK hL ht4 hH hR hS hl ih2)
    · exact lv_tableIn (off := 545) (tgt := 577) hx hb dL_law_32 (by decide) (by decide) (by decide) (by decide) (law_16 hx hb hml hown hw hX hbl hK hL ht4 hH hR hS hl ih2)
    · exact lv_tableIn (off := 568) (tgt := 600) hx hb dL_law_32 (by decide) (by decide) (by decide) (by decide) (law_17 hx hb hml hown hw hX hbl hK hL ht4 hH hR hS hl ih2)
    · exact lv_tableIn (off := 591) (tgt := 623) hx hb dL_law_32 (by decide) (by decide) (by decide) (by decide) (law_18 hx hb hml hown hw hX hbl hK hL ht4 hH hR hS hl ih2)
    · exact lv_tableIn (off := 614) (tgt := 646) hx hb dL_law_32 (by decide) (by decide) (by decide) (by decide) (law_19 hx hb hml hown hw hX hbl hK hL ht4 hH hR hS hl ih2)
    · have hb2 : (19 : Int32).toInt < (nI o).toInt := by rw [nI_toInt (by omega)]; exact Int.ofNat_lt.mpr hbig
      refine lv_tableOut (tgt := 669) hx hb dL_law_32 (Or.inr hb2) (by decide) ?_
      refine lv_iinc (k := 0) (v := nI (4 * (t + 1))) hx hb dL_law_669 hl rfl (by rw [show 4 * (t + 1) = 4 * t + 4 by omega, ← nI_add]; rfl) (by decide) rfl (fun ls hl => ?_)
      refine lv_goto hx hb dL_law_672 rfl ?_
      refine W.widen (k := (66 + 7 * (t + 1))) (n := (641 + 88 * (t + 1))) (by omega) (by omega) ?_
      exact ih2 _ _ _ _ _ _ _ ls _ _ hH hR hS hl
set_option maxHeartbeats 4000000 in
theorem gW_new {D : va_G} {c : Nat → ClassId} {sz : Nat} {ad1 ad3 : gN → Nat} {H : Heap} {e : va_E} (hold : ∀ n, gD 0 n ∧ n.1 < 11 → ad3 n = ad1 n)
    (hH : gH D vwCl ad3 (fun n => ((gD 0 n ∧ n.1 < 11) ∨ n = (11, 0, 0)) ∨ mNm n) (mV0 c ad3 (gu (gV c ad1 0 (fun _ _ => 0) (fun _ _ => 0) (fun _ _ => none) none none) (11, 0, 0) e)) (gA sz) H) : gW D c sz ad3 0 (fun _ _ => 0) mJ0 (fun _ _ => none) none none H := by
  refine gH.congr hH (fun n => ?_) (fun _ _ => rfl) (fun n hn => ?_)
  · obtain ⟨a, b, d⟩ := n
    unfold mNm
    match a with
    | 0 => simp [gD]
    | 1 => simp [gD]
    | 2 => simp [gD]
    | 3 => simp [gD]
    | 4 => simp [gD]
    | 5 => simp [gD]
    | 6 => simp [gD]
    | 7 => simp [gD]
    | 8 => simp [gD]
    | 9 => simp [gD]
    | 10 => simp [gD]
    | 11 => simp [gD]
    | 12 => simp only [gD, Prod.mk.injEq]; simp; omega
    | 13 => simp only [gD, Prod.mk.injEq]; simp; omega
    | a + 14 => simp [gD]
  · obtain ⟨a, b, d⟩ := n
    by_cases ha : 11 ≤ a
    · have h1 : 11 ≤ (a, b, d).1 := ha
      simp only [mV0, if_pos h1, gV]
    · have h1 : ¬ 11 ≤ (a, b, d).1 := ha
      have hn0 : gD 0 (a, b, d) := by
        rcases hn with (hn | hn) | hn
        · exact hn.1
        · cases hn; exact absurd (by decide) ha
        · unfold mNm at hn
          rcases hn with hn | hn | hn | hn | hn | hn | hn | hn | hn | hn | hn | hn | hn <;> (cases hn; exact absurd (by decide) ha)
      have e11 : (a, b, d) ≠ ((11, 0, 0) : gN) := fun z => by cases z; exact ha (by decide)
      simp only [mV0, if_neg h1, gu_n _ _ e11, gV]
      match a, hn0, ha with
      | 0, hn0, _ =>
        simp only [gE]
        rw [hold (1, 0, 0) ⟨⟨rfl, rfl⟩, by decide⟩, hold (4, 0, 0) ⟨⟨rfl, rfl⟩, by decide⟩, hold (5, 0, 0) ⟨⟨rfl, rfl⟩, by decide⟩]
        rfl
      | 1, hn0, _ =>
        simp only [gE]
        congr 4
        funext p
        by_cases hp : p < 24
        · simp only [hp, if_true]; rw [hold (2, p, 0) ⟨⟨hp, rfl⟩, show 2 < 11 by decide⟩]
        · simp only [hp, if_false]
      | 2, hn0, _ =>
        simp only [gE]
        rw [hold (3, b, 0) ⟨⟨hn0.1, rfl⟩, show 3 < 11 by decide⟩]
      | 3, hn0, _ => rfl
      | 4, hn0, _ => simp [gE]
      | 5, hn0, _ => rfl
      | 6, hn0, _ => exact absurd hn0.1 (Nat.not_lt_zero _)
      | 7, hn0, _ => exact absurd hn0.1 (Nat.not_lt_zero _)
      | 8, hn0, _ => exact absurd hn0.1 (Nat.not_lt_zero _)
      | 9, hn0, _ => exact absurd hn0.1 (Nat.not_lt_zero _)
      | 10, hn0, _ => exact absurd hn0.1 (Nat.not_lt_zero _)
