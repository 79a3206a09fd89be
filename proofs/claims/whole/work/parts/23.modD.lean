set_option maxHeartbeats 4000000 in
set_option maxRecDepth 100000 in
theorem c_M_run (l : Launch) {D : va_G} {c : Nat → ClassId} {sz : Nat} {ad : gN → Nat} {k : Nat} {I J : gI} {P : gP} {LG : Option Nat} {LP : Option (Nat × Nat)} {n x : Int32} (hld : ¬ J (11, 0, 0) 13 < 0 → ∃ q, q < 14 ∧ J (11, 0, 0) 13 = nI q ∧ ctOK J q ∧ (J (12, 12, 0) q = 0 ∨ ∃ a, a < 4 ∧ J (12, 12, 0) q = nI (a + 1))) : Met l yM_run wM_run { frames := 4, cells := 0, slots := 0, locals := 98 } (gPre D c sz [.ref (ad (11, 0, 0)), .int n, .int x] (ad, k, I, J, P, LG, LP)) (va_Qi (fun r u => r = (mRun J n x).1 ∧ u = (ad, k, I, (mRun J n x).2, P, LG, LP)) (gB D c sz) (gA sz)) 0 0 (gA sz) := by
  refine Met.ofW (cc := cM_run) (maxL := 6) (ret := (some .int)) (by decide) rfl ?_
  intro p e s m args below meth cd s₁ B hml hv
  obtain ⟨rfl, hK, hH⟩ := hv
  have hx := B.exec
  have hb := B.bytes
  have hr := B.returns
  have hts := atoms_spec (ws := wM_run) B.pre
  have hw : ∀ w ∈ gWd, w.before _ s = true := fun w h => hts w (List.mem_cons_of_mem _ h)
  have hown : s.vm.findClass RM = some m.cls := findClass_of_methodNamed B.named
  have hlk := B.notSynchronized
  have hS : va_S (gA sz) s.heap s.heap [] := va_S.rf
  have hH : gW D c sz ad k I J P LG LP s.heap := hH
  have hl := lv_entry ([.ref (ad (11, 0, 0)), .int n, .int x]) (n := 6) (Nat.le_of_ble_eq_true rfl)
  rw [lg_entry_eq]
  generalize (lg_sl ([.ref (ad (11, 0, 0)), .int n, .int x]) ++ List.replicate (6 - (lg_sl ([.ref (ad (11, 0, 0)), .int n, .int x])).length) Slot.unset).toArray = ls at hl ⊢
  have hl : lv_has ls 6 [(0, .ref (ad (11, 0, 0))), (1, .int n), (2, .int x)] := hl
  refine lv_aload_n hx hb dM_run_0 rfl (lv_at hl 0 rfl) ?_
  refine s_get hx hb hw inM hown hK hH 13 (by decide) (hw _ (gwd_6 (List.mem_of_getElem? (i := 5) rfl))) (by first | exact ⟨rfl, rfl⟩ | exact ⟨by assumption, rfl⟩ | exact ⟨by assumption, by assumption⟩ | exact ⟨by omega, rfl⟩ | exact ⟨by omega, by omega⟩ | exact ⟨by decide, rfl⟩) rfl rfl rfl rfl dM_run_1 ?_
  refine lv_if_lt hx hb dM_run_4 rfl (fun h_1 => ?_) (fun h_1 => ?_)
  · skip
    refine lv_iconst (v := -1) hx hb dM_run_18 (by decide) ?_
    exact r_i hx hb hr hlk hK hH hS dM_run_19 (by first | (rw [mRun, if_pos (Or.inl h_1)]; exact ⟨rfl, rfl⟩) | (rw [mRun, if_pos (Or.inr (Or.inl rfl))]; exact ⟨rfl, rfl⟩) | (rw [mRun, if_pos (Or.inr (Or.inr (Int32.not_le.mp rfl)))]; exact ⟨rfl, rfl⟩))
  · skip
    refine lv_iload_n hx hb dM_run_7 rfl (lv_at hl 1 rfl) ?_
    refine lv_iconst (v := 1) hx hb dM_run_8 (by decide) ?_
    refine lv_icmp_lt hx hb dM_run_9 rfl (fun h_2 => ?_) (fun h_2 => ?_)
    · skip
      refine lv_iconst (v := -1) hx hb dM_run_18 (by decide) ?_
      exact r_i hx hb hr hlk hK hH hS dM_run_19 (by first | (rw [mRun, if_pos (Or.inl h_1)]; exact ⟨rfl, rfl⟩) | (rw [mRun, if_pos (Or.inr (Or.inl h_2))]; exact ⟨rfl, rfl⟩) | (rw [mRun, if_pos (Or.inr (Or.inr (Int32.not_le.mp rfl)))]; exact ⟨rfl, rfl⟩))
    · skip
      refine lv_iload_n hx hb dM_run_12 rfl (lv_at hl 1 rfl) ?_
      refine lv_bipush (v := 64) hx hb dM_run_13 (by decide) ?_
      refine lv_icmp_le hx hb dM_run_15 rfl (fun h_3 => ?_) (fun h_3 => ?_)
      · skip
        obtain ⟨b, hb6, rfl⟩ := ix_le 64 64 rfl (by decide) (fun z => h_2 (Int32.lt_trans z (by decide))) h_3
        have hib : ix (nI b) = b := ix_nI (by omega)
        obtain ⟨q, hq, eq, hct, hwt⟩ := hld h_1
        have hiq : ix (nI q) = q := ix_nI (by omega)
        have hcond : ¬ (J (11, 0, 0) 13 < 0 ∨ nI b < 1 ∨ 64 < nI b) := fun z => z.elim h_1 (fun z => z.elim h_2 (fun z => absurd z (Int32.not_lt.mpr h_3)))
        have key : ∀ (J0 : gI), mRun J (nI b) x = stepsN (mStep q) b J0 → ∀ (n' i : Nat) (J' : gI) (x9 : Int32), i + n' = b → ctOK J' q → (if x9 = 0 then stepsN (mStep q) n' J' else (x9, J')) = stepsN (mStep q) b J0 → ∀ ls : Array Slot, lv_has ls 6 [(5, .int (nI i)), (4, .int x9), (3, .int (nI q)), (0, .ref (ad (11, 0, 0))), (1, .int (nI b))] → ∀ (H : Heap) (locs : List Loc), gW D c sz ad k I J' P LG LP H → va_S (gA sz) s.heap H locs → W p l e (headSpec wM_run { frames := 4, cells := 0, slots := 0, locals := 98 }).room s m ([.ref (ad (11, 0, 0)), .int (nI b), .int x] : List Value).toArray below meth cd H locs 0 0 (MQ below (va_Qi (fun r u => r = (mRun J (nI b) x).1 ∧ u = (ad, k, I, (mRun J (nI b) x).2, P, LG, LP)) (gB D c sz) (gA sz)) ([.ref (ad (11, 0, 0)), .int (nI b), .int x] : List Value).toArray s 0 0 (gA sz)) (F0 m 70 ls []) := by
          intro J0 hR n'
          induction n' with
          | zero =>
            intro i J' x9 hi hct hst ls hl H locs hH hS
            refine lv_iload hx hb dM_run_70 (lv_at hl 0 rfl) ?_
            refine lv_iload_n hx hb dM_run_72 rfl (lv_at hl 4 rfl) ?_
            refine lv_icmp_ge hx hb dM_run_73 rfl (fun h_1001 => ?_) (fun h_1001 => ?_)
            · skip
              refine lv_iload hx hb dM_run_94 (lv_at hl 1 rfl) ?_
              exact r_i hx hb hr hlk hK hH hS dM_run_96 (by rw [hR, ← hst]; by_cases z : x9 = 0; (subst z; exact ⟨rfl, rfl⟩); (rw [if_neg z]; exact ⟨rfl, rfl⟩))
            · exact absurd (nI_le (show b ≤ i by omega) (by omega)) h_1001
          | succ n' ih =>
            intro i J' x9 hi hct hst ls hl H locs hH hS
            refine lv_iload hx hb dM_run_70 (lv_at hl 0 rfl) ?_
            refine lv_iload_n hx hb dM_run_72 rfl (lv_at hl 4 rfl) ?_
            refine lv_icmp_ge hx hb dM_run_73 rfl (fun h_1002 => ?_) (fun h_1002 => ?_)
            · exact absurd h_1002 (nI_ge (show i < b by omega) (by omega))
            · skip
              refine lv_iload hx hb dM_run_76 (lv_at hl 1 rfl) ?_
              refine lv_if_ne hx hb dM_run_78 rfl (fun h_1003 => ?_) (fun h_1003 => ?_)
              · skip
                refine lv_iload hx hb dM_run_94 (lv_at hl 1 rfl) ?_
                exact r_i hx hb hr hlk hK hH hS dM_run_96 (by rw [hR, ← hst, if_neg h_1003]; exact ⟨rfl, rfl⟩)
              · skip
                refine lv_aload_n hx hb dM_run_81 rfl (lv_at hl 3 rfl) ?_
                refine lv_iload_n hx hb dM_run_82 rfl (lv_at hl 2 rfl) ?_
                refine s_ciE (va_runV (As := [.int _]) (rest := []) ⟨hx, hb, hml, hown, hw⟩ (c_M_step l  (by assumption) (by assumption)) (cwV 1 hw (gd_V (gwd_8 (List.mem_of_getElem? (i := 23) rfl)) (gwd_8 (List.mem_of_getElem? (i := 24) rfl)) (gwd_9 (List.mem_of_getElem? (i := 34) rfl)) (gwd_0 (List.mem_of_getElem? (i := 3) rfl)) (gwd_8 (List.mem_of_getElem? (i := 25) rfl))) rfl rfl rfl (by decide +kernel) ⟨Nat.le_of_ble_eq_true rfl, Nat.le_of_ble_eq_true rfl⟩) (gPre.V (n := (11, 0, 0)) hK hH (by first | exact ⟨rfl, rfl⟩ | exact ⟨by assumption, rfl⟩ | exact ⟨by assumption, by assumption⟩ | exact ⟨by omega, rfl⟩ | exact ⟨by omega, by omega⟩ | exact ⟨by decide, rfl⟩) rfl rfl) rfl rfl hl.1 rfl (lv_room (Nat.le_of_ble_eq_true rfl)) dM_run_83 ⟨Nat.zero_le _, Nat.zero_le _⟩) hS (fun H locs hH hS => ?_)
                refine lv_istore hx hb dM_run_86 hl (by decide) rfl (fun ls hl => ?_)
                have hl : lv_has ls 6 [(4, .int _), (5, .int _), (3, .int _), (0, .ref _), (1, .int _)] := hl
                refine lv_iinc (k := 1) (v := nI (i + 1)) hx hb dM_run_88 hl rfl (by rw [nI_succ]; rfl) (by decide) rfl (fun ls hl => ?_)
                have hl : lv_has ls 6 [(5, .int _), (4, .int _), (3, .int _), (0, .ref _), (1, .int _)] := hl
                refine lv_goto hx hb dM_run_91 rfl ?_
                exact ih (i + 1) _ _ (by omega) (mStep_ct hct) (by rw [← hst, if_pos h_1003]; simp only [stepsN]) ls (lv_sub hl [0, 1, 2, 3, 4] rfl) H locs hH hS
        refine lv_aload_n hx hb dM_run_20 rfl (lv_at hl 0 rfl) ?_
        refine s_get hx hb hw inM hown hK hH 13 (by decide) (hw _ (gwd_6 (List.mem_of_getElem? (i := 5) rfl))) (by first | exact ⟨rfl, rfl⟩ | exact ⟨by assumption, rfl⟩ | exact ⟨by assumption, by assumption⟩ | exact ⟨by omega, rfl⟩ | exact ⟨by omega, by omega⟩ | exact ⟨by decide, rfl⟩) rfl rfl rfl rfl dM_run_21 ?_
        rw [eq]
        refine lv_istore_n hx hb dM_run_24 rfl hl (by decide) rfl (fun ls hl => ?_)
        have hl : lv_has ls 6 [(3, .int _), (0, .ref _), (1, .int _), (2, .int _)] := hl
        refine lv_aload_n hx hb dM_run_25 rfl (lv_at hl 1 rfl) ?_
        refine s_get hx hb hw inM hown hK hH 12 (by decide) (hw _ (gwd_6 (List.mem_of_getElem? (i := 4) rfl))) (by first | exact ⟨rfl, rfl⟩ | exact ⟨by assumption, rfl⟩ | exact ⟨by assumption, by assumption⟩ | exact ⟨by omega, rfl⟩ | exact ⟨by omega, by omega⟩ | exact ⟨by decide, rfl⟩) rfl rfl rfl rfl dM_run_26 ?_
        refine lv_iload_n hx hb dM_run_29 rfl (lv_at hl 0 rfl) ?_
        refine m_iald hx hb hK hH (by first | exact ⟨rfl, rfl⟩ | exact ⟨by assumption, rfl⟩ | exact ⟨by assumption, by assumption⟩ | exact ⟨by omega, rfl⟩ | exact ⟨by omega, by omega⟩ | exact ⟨by decide, rfl⟩) rfl _ (by first | rfl | assumption) (show _ < 14 from by first | assumption | decide | omega) (by decide) dM_run_30 ?_
        refine lv_if_le hx hb dM_run_31 rfl (fun h_4 => ?_) (fun h_4 => ?_)
        · skip
          refine lv_aload_n hx hb dM_run_59 rfl (lv_at hl 1 rfl) ?_
          refine lv_iconst (v := 0) hx hb dM_run_60 (by decide) ?_
          refine m_put hx hb hw inM tyM_ok nM hown hK hH hS 14 (by decide) (hw _ (gwd_6 (List.mem_of_getElem? (i := 6) rfl))) (by first | exact ⟨rfl, rfl⟩ | exact ⟨by assumption, rfl⟩ | exact ⟨by assumption, by assumption⟩ | exact ⟨by omega, rfl⟩ | exact ⟨by omega, by omega⟩ | exact ⟨by decide, rfl⟩) rfl rfl rfl rfl rfl rfl rfl (Nat.le_of_ble_eq_true rfl) rfl dM_run_61 (fun H locs hH hS => ?_)
          refine lv_iconst (v := 0) hx hb dM_run_64 (by decide) ?_
          refine lv_istore hx hb dM_run_65 hl (by decide) rfl (fun ls hl => ?_)
          have hl : lv_has ls 6 [(4, .int _), (3, .int _), (0, .ref _), (1, .int _), (2, .int _)] := hl
          refine lv_iconst (v := 0) hx hb dM_run_67 (by decide) ?_
          refine lv_istore hx hb dM_run_68 hl (by decide) rfl (fun ls hl => ?_)
          have hl : lv_has ls 6 [(5, .int _), (4, .int _), (3, .int _), (0, .ref _), (1, .int _), (2, .int _)] := hl
          exact key (iu (mAns J q x) (11, 0, 0) 14 0) (by rw [mRun, if_neg hcond, eq, hiq, hib]) b 0 _ 0 (by omega) (by obtain ⟨t, ht, e⟩ := hct; exact ⟨t, ht, by simp [iu_at]; exact e⟩) (by rw [if_pos rfl]; rw [mAns]; first | rw [if_pos h_4] | rw [if_neg h_4]) ls (lv_sub hl [0, 1, 2, 3, 4] rfl) H locs hH hS
        · skip
          obtain ⟨a, ha, ew⟩ := hwt.resolve_left (fun z => h_4 (by rw [z]; decide))
          have hixw : ix (J (12, 12, 0) q) = a + 1 := by rw [ew]; exact ix_nI (by omega)
          refine lv_aload_n hx hb dM_run_34 rfl (lv_at hl 1 rfl) ?_
          refine s_get hx hb hw inM hown hK hH 10 (by decide) (hw _ (gwd_6 (List.mem_of_getElem? (i := 2) rfl))) (by first | exact ⟨rfl, rfl⟩ | exact ⟨by assumption, rfl⟩ | exact ⟨by assumption, by assumption⟩ | exact ⟨by omega, rfl⟩ | exact ⟨by omega, by omega⟩ | exact ⟨by decide, rfl⟩) rfl rfl rfl rfl dM_run_35 ?_
          refine lv_iconst (v := 4) hx hb dM_run_38 (by decide) ?_
          refine lv_iload_n hx hb dM_run_39 rfl (lv_at hl 0 rfl) ?_
          refine lv_imul hx hb dM_run_40 ?_
          refine lv_aload_n hx hb dM_run_41 rfl (lv_at hl 1 rfl) ?_
          refine s_get hx hb hw inM hown hK hH 12 (by decide) (hw _ (gwd_6 (List.mem_of_getElem? (i := 4) rfl))) (by first | exact ⟨rfl, rfl⟩ | exact ⟨by assumption, rfl⟩ | exact ⟨by assumption, by assumption⟩ | exact ⟨by omega, rfl⟩ | exact ⟨by omega, by omega⟩ | exact ⟨by decide, rfl⟩) rfl rfl rfl rfl dM_run_42 ?_
          refine lv_iload_n hx hb dM_run_45 rfl (lv_at hl 0 rfl) ?_
          refine m_iald hx hb hK hH (by first | exact ⟨rfl, rfl⟩ | exact ⟨by assumption, rfl⟩ | exact ⟨by assumption, by assumption⟩ | exact ⟨by omega, rfl⟩ | exact ⟨by omega, by omega⟩ | exact ⟨by decide, rfl⟩) rfl _ (by first | rfl | assumption) (show _ < 14 from by first | assumption | decide | omega) (by decide) dM_run_46 ?_
          refine lv_iadd hx hb dM_run_47 ?_
          refine lv_iconst (v := 1) hx hb dM_run_48 (by decide) ?_
          refine lv_isub hx hb dM_run_49 ?_
          refine lv_iload_n hx hb dM_run_50 rfl (lv_at hl 3 rfl) ?_
          refine m_iast hx hb hK hH hS (by first | exact ⟨rfl, rfl⟩ | exact ⟨by assumption, rfl⟩ | exact ⟨by assumption, by assumption⟩ | exact ⟨by omega, rfl⟩ | exact ⟨by omega, by omega⟩ | exact ⟨by decide, rfl⟩) rfl (4 * q + ix (J (12, 12, 0) q) - 1) (by rw [hixw, ew, idx4]; exact nI_pred (4 * q + a)) (show _ < 56 from by rw [hixw]; omega) (by decide) rfl dM_run_51 (fun H locs hH hS => ?_)
          refine lv_aload_n hx hb dM_run_52 rfl (lv_at hl 1 rfl) ?_
          refine s_get hx hb hw inM hown hK hH 12 (by decide) (hw _ (gwd_6 (List.mem_of_getElem? (i := 4) rfl))) (by first | exact ⟨rfl, rfl⟩ | exact ⟨by assumption, rfl⟩ | exact ⟨by assumption, by assumption⟩ | exact ⟨by omega, rfl⟩ | exact ⟨by omega, by omega⟩ | exact ⟨by decide, rfl⟩) rfl rfl rfl rfl dM_run_53 ?_
          refine lv_iload_n hx hb dM_run_56 rfl (lv_at hl 0 rfl) ?_
          refine lv_iconst (v := 0) hx hb dM_run_57 (by decide) ?_
          refine m_iast hx hb hK hH hS (by first | exact ⟨rfl, rfl⟩ | exact ⟨by assumption, rfl⟩ | exact ⟨by assumption, by assumption⟩ | exact ⟨by omega, rfl⟩ | exact ⟨by omega, by omega⟩ | exact ⟨by decide, rfl⟩) rfl _ (by first | rfl | assumption) (show _ < 14 from by first | assumption | decide | omega) (by decide) rfl dM_run_58 (fun H locs hH hS => ?_)
          refine lv_aload_n hx hb dM_run_59 rfl (lv_at hl 1 rfl) ?_
          refine lv_iconst (v := 0) hx hb dM_run_60 (by decide) ?_
          refine m_put hx hb hw inM tyM_ok nM hown hK hH hS 14 (by decide) (hw _ (gwd_6 (List.mem_of_getElem? (i := 6) rfl))) (by first | exact ⟨rfl, rfl⟩ | exact ⟨by assumption, rfl⟩ | exact ⟨by assumption, by assumption⟩ | exact ⟨by omega, rfl⟩ | exact ⟨by omega, by omega⟩ | exact ⟨by decide, rfl⟩) rfl rfl rfl rfl rfl rfl rfl (Nat.le_of_ble_eq_true rfl) rfl dM_run_61 (fun H locs hH hS => ?_)
          refine lv_iconst (v := 0) hx hb dM_run_64 (by decide) ?_
          refine lv_istore hx hb dM_run_65 hl (by decide) rfl (fun ls hl => ?_)
          have hl : lv_has ls 6 [(4, .int _), (3, .int _), (0, .ref _), (1, .int _), (2, .int _)] := hl
          refine lv_iconst (v := 0) hx hb dM_run_67 (by decide) ?_
          refine lv_istore hx hb dM_run_68 hl (by decide) rfl (fun ls hl => ?_)
          have hl : lv_has ls 6 [(5, .int _), (4, .int _), (3, .int _), (0, .ref _), (1, .int _), (2, .int _)] := hl
          exact key (iu (mAns J q x) (11, 0, 0) 14 0) (by rw [mRun, if_neg hcond, eq, hiq, hib]) b 0 _ 0 (by omega) (by obtain ⟨t, ht, e⟩ := hct; exact ⟨t, ht, by simp [iu_at]; exact e⟩) (by rw [if_pos rfl]; rw [mAns]; first | rw [if_pos h_4] | rw [if_neg h_4]) ls (lv_sub hl [0, 1, 2, 3, 4] rfl) H locs hH hS
      · skip
        refine lv_iconst (v := -1) hx hb dM_run_18 (by decide) ?_
        exact r_i hx hb hr hlk hK hH hS dM_run_19 (by first | (rw [mRun, if_pos (Or.inl h_1)]; exact ⟨rfl, rfl⟩) | (rw [mRun, if_pos (Or.inr (Or.inl h_2))]; exact ⟨rfl, rfl⟩) | (rw [mRun, if_pos (Or.inr (Or.inr (Int32.not_le.mp h_3)))]; exact ⟨rfl, rfl⟩))
