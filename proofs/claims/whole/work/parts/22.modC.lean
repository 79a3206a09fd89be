theorem mHeld_nn {J : gI} {G a : Int32} (h : ¬ mHeld J G a < 0) : ∃ q, q < 24 ∧ mHeld J G a = nI q := by
  rcases mHeld_cases J G a with z | z
  · rw [z] at h
    exact absurd m1_lt h
  · exact z
theorem mWord_nn {J : gI} {G : Int32} {t : Nat} (h : ¬ (mWord J G t).1 < 0) : ∃ j, j < 96 ∧ (mWord J G t).1 = nI j ∧ (mWord J G t).2 = J := by
  unfold mWord at h ⊢
  by_cases z : mHeld J G (nI (t / 4)) < 0
  · rw [if_pos z] at h
    exact absurd m1_lt h
  · obtain ⟨q, hq, e⟩ := mHeld_nn z
    rw [if_neg z]
    exact ⟨4 * q + t % 4, by omega, by show 4 * mHeld J G (nI (t / 4)) + nI (t % 4) = _; rw [e]; exact idx4 q _, rfl⟩
set_option maxHeartbeats 4000000 in
set_option maxRecDepth 100000 in
theorem c_M_word (l : Launch) {D : va_G} {c : Nat → ClassId} {sz : Nat} {ad : gN → Nat} {k : Nat} {I J : gI} {P : gP} {LG : Option Nat} {LP : Option (Nat × Nat)} {G : Int32} {t : Nat} (ht : t < 256) : Met l yM_word wM_word { frames := 2, cells := 0, slots := 0, locals := 44 } (gPre D c sz [.ref (ad (11, 0, 0)), .int G, .int (nI t)] (ad, k, I, J, P, LG, LP)) (va_Qi (fun r u => r = (mWord J G t).1 ∧ u = (ad, k, I, (mWord J G t).2, P, LG, LP)) (gB D c sz) (gA sz)) 0 0 (gA sz) := by
  refine Met.ofW (cc := cM_word) (maxL := 4) (ret := (some .int)) (by decide) rfl ?_
  intro p e s m args below meth cd s₁ B hml hv
  obtain ⟨rfl, hK, hH⟩ := hv
  have hx := B.exec
  have hb := B.bytes
  have hr := B.returns
  have hts := atoms_spec (ws := wM_word) B.pre
  have hw : ∀ w ∈ gWd, w.before _ s = true := fun w h => hts w (List.mem_cons_of_mem _ h)
  have hown : s.vm.findClass RM = some m.cls := findClass_of_methodNamed B.named
  have hlk := B.notSynchronized
  have hS : va_S (gA sz) s.heap s.heap [] := va_S.rf
  have hH : gW D c sz ad k I J P LG LP s.heap := hH
  have hl := lv_entry ([.ref (ad (11, 0, 0)), .int G, .int (nI t)]) (n := 4) (Nat.le_of_ble_eq_true rfl)
  rw [lg_entry_eq]
  generalize (lg_sl ([.ref (ad (11, 0, 0)), .int G, .int (nI t)]) ++ List.replicate (4 - (lg_sl ([.ref (ad (11, 0, 0)), .int G, .int (nI t)])).length) Slot.unset).toArray = ls at hl ⊢
  have hl : lv_has ls 4 [(0, .ref (ad (11, 0, 0))), (1, .int G), (2, .int (nI t))] := hl
  have erem : nI t - nI t / 4 * 4 = nI (t % 4) := pk_rem (d := 4) (by omega) (by decide) (by decide)
  have e4 : nI t / 4 = nI (t / 4) := pk_div (d := 4) (by omega) (by decide) (by decide)
  refine lv_aload_n hx hb dM_word_0 rfl (lv_at hl 0 rfl) ?_
  refine lv_iload_n hx hb dM_word_1 rfl (lv_at hl 1 rfl) ?_
  refine lv_iload_n hx hb dM_word_2 rfl (lv_at hl 2 rfl) ?_
  refine lv_iconst (v := 4) hx hb dM_word_3 (by decide) ?_
  refine lv_idiv hx hb dM_word_4 (by decide) ?_
  rw [e4]
  refine s_ciE (va_runV (As := [.int _, .int _]) (rest := []) ⟨hx, hb, hml, hown, hw⟩ (c_M_held l  ) (cwV 2 hw (gd_V (gwd_7 (List.mem_of_getElem? (i := 40) rfl)) (gwd_7 (List.mem_of_getElem? (i := 41) rfl)) (gwd_9 (List.mem_of_getElem? (i := 33) rfl)) (gwd_0 (List.mem_of_getElem? (i := 3) rfl)) (gwd_7 (List.mem_of_getElem? (i := 42) rfl))) rfl rfl rfl (by decide +kernel) ⟨Nat.le_of_ble_eq_true rfl, Nat.le_of_ble_eq_true rfl⟩) (gPre.V (n := (11, 0, 0)) hK hH (by first | exact ⟨rfl, rfl⟩ | exact ⟨by assumption, rfl⟩ | exact ⟨by assumption, by assumption⟩ | exact ⟨by omega, rfl⟩ | exact ⟨by omega, by omega⟩ | exact ⟨by decide, rfl⟩) rfl rfl) rfl rfl hl.1 rfl (lv_room (Nat.le_of_ble_eq_true rfl)) dM_word_5 ⟨Nat.zero_le _, Nat.zero_le _⟩) hS (fun H locs hH hS => ?_)
  refine lv_istore_n hx hb dM_word_8 rfl hl (by decide) rfl (fun ls hl => ?_)
  have hl : lv_has ls 4 [(3, .int _), (0, .ref _), (1, .int _), (2, .int _)] := hl
  refine lv_iload_n hx hb dM_word_9 rfl (lv_at hl 0 rfl) ?_
  refine lv_if_ge hx hb dM_word_10 rfl (fun h_1 => ?_) (fun h_1 => ?_)
  · skip
    refine lv_iconst (v := 4) hx hb dM_word_20 (by decide) ?_
    refine lv_iload_n hx hb dM_word_21 rfl (lv_at hl 0 rfl) ?_
    refine lv_imul hx hb dM_word_22 ?_
    refine lv_iload_n hx hb dM_word_23 rfl (lv_at hl 3 rfl) ?_
    refine lv_iconst (v := 4) hx hb dM_word_24 (by decide) ?_
    refine lv_irem hx hb dM_word_25 (by decide) ?_
    rw [erem]
    refine lv_iadd hx hb dM_word_26 ?_
    exact r_i hx hb hr hlk hK hH hS dM_word_27 (by first | (rw [mWord, if_pos (Int32.not_le.mp h_1)]; exact ⟨rfl, rfl⟩) | (rw [mWord, if_neg (Int32.not_lt.mpr h_1)]; exact ⟨rfl, rfl⟩))
  · skip
    refine lv_aload_n hx hb dM_word_13 rfl (lv_at hl 1 rfl) ?_
    refine lv_iload_n hx hb dM_word_14 rfl (lv_at hl 3 rfl) ?_
    refine m_put hx hb hw inM tyM_ok nM hown hK hH hS 14 (by decide) (hw _ (gwd_6 (List.mem_of_getElem? (i := 6) rfl))) (by first | exact ⟨rfl, rfl⟩ | exact ⟨by assumption, rfl⟩ | exact ⟨by assumption, by assumption⟩ | exact ⟨by omega, rfl⟩ | exact ⟨by omega, by omega⟩ | exact ⟨by decide, rfl⟩) rfl rfl rfl rfl rfl rfl rfl (Nat.le_of_ble_eq_true rfl) rfl dM_word_15 (fun H locs hH hS => ?_)
    refine lv_iconst (v := -1) hx hb dM_word_18 (by decide) ?_
    exact r_i hx hb hr hlk hK hH hS dM_word_19 (by first | (rw [mWord, if_pos (Int32.not_le.mp h_1)]; exact ⟨rfl, rfl⟩) | (rw [mWord, if_neg (Int32.not_lt.mpr h_1)]; exact ⟨rfl, rfl⟩))
set_option maxHeartbeats 4000000 in
set_option maxRecDepth 100000 in
theorem c_M_turn (l : Launch) {D : va_G} {c : Nat → ClassId} {sz : Nat} {ad : gN → Nat} {k : Nat} {I J : gI} {P : gP} {LG : Option Nat} {LP : Option (Nat × Nat)} {G x : Int32} {t : Nat} (hx1 : x = 0 ∨ x = 1) : Met l yM_turn wM_turn { frames := 2, cells := 0, slots := 0, locals := 44 } (gPre D c sz [.ref (ad (11, 0, 0)), .int G, .int (nI t), .int x] (ad, k, I, J, P, LG, LP)) (va_Qi (fun r u => r = (mTurn J G t x).1 ∧ u = (ad, k, I, (mTurn J G t x).2, P, LG, LP)) (gB D c sz) (gA sz)) 0 0 (gA sz) := by
  refine Met.ofW (cc := cM_turn) (maxL := 5) (ret := (some .boolean)) (by decide) rfl ?_
  intro p e s m args below meth cd s₁ B hml hv
  obtain ⟨rfl, hK, hH⟩ := hv
  have hx := B.exec
  have hb := B.bytes
  have hr := B.returns
  have hts := atoms_spec (ws := wM_turn) B.pre
  have hw : ∀ w ∈ gWd, w.before _ s = true := fun w h => hts w (List.mem_cons_of_mem _ h)
  have hown : s.vm.findClass RM = some m.cls := findClass_of_methodNamed B.named
  have hlk := B.notSynchronized
  have hS : va_S (gA sz) s.heap s.heap [] := va_S.rf
  have hH : gW D c sz ad k I J P LG LP s.heap := hH
  have hl := lv_entry ([.ref (ad (11, 0, 0)), .int G, .int (nI t), .int x]) (n := 5) (Nat.le_of_ble_eq_true rfl)
  rw [lg_entry_eq]
  generalize (lg_sl ([.ref (ad (11, 0, 0)), .int G, .int (nI t), .int x]) ++ List.replicate (5 - (lg_sl ([.ref (ad (11, 0, 0)), .int G, .int (nI t), .int x])).length) Slot.unset).toArray = ls at hl ⊢
  have hl : lv_has ls 5 [(0, .ref (ad (11, 0, 0))), (1, .int G), (2, .int (nI t)), (3, .int x)] := hl
  refine lv_aload_n hx hb dM_turn_0 rfl (lv_at hl 0 rfl) ?_
  refine lv_iload_n hx hb dM_turn_1 rfl (lv_at hl 1 rfl) ?_
  refine lv_iload_n hx hb dM_turn_2 rfl (lv_at hl 2 rfl) ?_
  refine s_ciE (va_runV (As := [.int _, .int _]) (rest := []) ⟨hx, hb, hml, hown, hw⟩ (c_M_held l  ) (cwV 2 hw (gd_V (gwd_7 (List.mem_of_getElem? (i := 40) rfl)) (gwd_7 (List.mem_of_getElem? (i := 41) rfl)) (gwd_9 (List.mem_of_getElem? (i := 33) rfl)) (gwd_0 (List.mem_of_getElem? (i := 3) rfl)) (gwd_7 (List.mem_of_getElem? (i := 42) rfl))) rfl rfl rfl (by decide +kernel) ⟨Nat.le_of_ble_eq_true rfl, Nat.le_of_ble_eq_true rfl⟩) (gPre.V (n := (11, 0, 0)) hK hH (by first | exact ⟨rfl, rfl⟩ | exact ⟨by assumption, rfl⟩ | exact ⟨by assumption, by assumption⟩ | exact ⟨by omega, rfl⟩ | exact ⟨by omega, by omega⟩ | exact ⟨by decide, rfl⟩) rfl rfl) rfl rfl hl.1 rfl (lv_room (Nat.le_of_ble_eq_true rfl)) dM_turn_3 ⟨Nat.zero_le _, Nat.zero_le _⟩) hS (fun H locs hH hS => ?_)
  refine lv_istore hx hb dM_turn_6 hl (by decide) rfl (fun ls hl => ?_)
  have hl : lv_has ls 5 [(4, .int _), (0, .ref _), (1, .int _), (2, .int _), (3, .int _)] := hl
  refine lv_iload hx hb dM_turn_8 (lv_at hl 0 rfl) ?_
  refine lv_if_lt hx hb dM_turn_10 rfl (fun h_1 => ?_) (fun h_1 => ?_)
  · skip
    refine lv_iconst (v := 0) hx hb dM_turn_35 (by decide) ?_
    exact r_z hx hb hr hlk hK hH hS dM_turn_36 (by first | exact Or.inl rfl | exact Or.inr rfl | exact bz_01 _ | assumption) (by first | (rw [mTurn, if_pos (Or.inl h_1)]; exact ⟨rfl, rfl⟩) | (rw [mTurn, eq, hiq, if_pos (Or.inr (Or.inl rfl))]; exact ⟨rfl, rfl⟩) | (rw [mTurn, eq, hiq, if_pos (Or.inr (Or.inr rfl))]; exact ⟨rfl, rfl⟩) | (rw [mTurn, eq, hiq, if_neg (fun z => z.elim (fun z => h_1 (by rw [eq]; exact z)) (fun z => z.elim (fun z => z rfl) (fun z => rfl z)))]; exact ⟨rfl, rfl⟩))
  · skip
    obtain ⟨q, hq, eq⟩ := mHeld_nn h_1
    have hiq : ix (nI q) = q := ix_nI (by omega)
    refine lv_aload_n hx hb dM_turn_13 rfl (lv_at hl 1 rfl) ?_
    refine s_get hx hb hw inM hown hK hH 1 (by decide) (hw _ (gwd_5 (List.mem_of_getElem? (i := 41) rfl))) (by first | exact ⟨rfl, rfl⟩ | exact ⟨by assumption, rfl⟩ | exact ⟨by assumption, by assumption⟩ | exact ⟨by omega, rfl⟩ | exact ⟨by omega, by omega⟩ | exact ⟨by decide, rfl⟩) rfl rfl rfl rfl dM_turn_14 ?_
    refine lv_iload hx hb dM_turn_17 (lv_at hl 0 rfl) ?_
    refine m_iald hx hb hK hH (by first | exact ⟨rfl, rfl⟩ | exact ⟨by assumption, rfl⟩ | exact ⟨by assumption, by assumption⟩ | exact ⟨by omega, rfl⟩ | exact ⟨by omega, by omega⟩ | exact ⟨by decide, rfl⟩) rfl q eq (show _ < 24 from by first | assumption | decide | omega) (by decide) dM_turn_19 ?_
    refine lv_iload_n hx hb dM_turn_20 rfl (lv_at hl 2 rfl) ?_
    refine lv_icmp_ne hx hb dM_turn_21 rfl (fun h_2 => ?_) (fun h_2 => ?_)
    · skip
      refine lv_iconst (v := 0) hx hb dM_turn_35 (by decide) ?_
      exact r_z hx hb hr hlk hK hH hS dM_turn_36 (by first | exact Or.inl rfl | exact Or.inr rfl | exact bz_01 _ | assumption) (by first | (rw [mTurn, if_pos (Or.inl h_1)]; exact ⟨rfl, rfl⟩) | (rw [mTurn, eq, hiq, if_pos (Or.inr (Or.inl h_2))]; exact ⟨rfl, rfl⟩) | (rw [mTurn, eq, hiq, if_pos (Or.inr (Or.inr rfl))]; exact ⟨rfl, rfl⟩) | (rw [mTurn, eq, hiq, if_neg (fun z => z.elim (fun z => h_1 (by rw [eq]; exact z)) (fun z => z.elim (fun z => z h_2) (fun z => rfl z)))]; exact ⟨rfl, rfl⟩))
    · skip
      refine lv_aload_n hx hb dM_turn_24 rfl (lv_at hl 1 rfl) ?_
      refine s_get hx hb hw inM hown hK hH 5 (by decide) (hw _ (gwd_5 (List.mem_of_getElem? (i := 45) rfl))) (by first | exact ⟨rfl, rfl⟩ | exact ⟨by assumption, rfl⟩ | exact ⟨by assumption, by assumption⟩ | exact ⟨by omega, rfl⟩ | exact ⟨by omega, by omega⟩ | exact ⟨by decide, rfl⟩) rfl rfl rfl rfl dM_turn_25 ?_
      refine lv_iload hx hb dM_turn_28 (lv_at hl 0 rfl) ?_
      refine m_zald hx hb hK hH (by first | exact ⟨rfl, rfl⟩ | exact ⟨by assumption, rfl⟩ | exact ⟨by assumption, by assumption⟩ | exact ⟨by omega, rfl⟩ | exact ⟨by omega, by omega⟩ | exact ⟨by decide, rfl⟩) rfl q eq (show _ < 24 from by first | assumption | decide | omega) (by decide) dM_turn_30 ?_
      refine lv_iload_n hx hb dM_turn_31 rfl (lv_at hl 4 rfl) ?_
      refine lv_icmp_ne hx hb dM_turn_32 rfl (fun h_3 => ?_) (fun h_3 => ?_)
      · skip
        refine lv_aload_n hx hb dM_turn_37 rfl (lv_at hl 1 rfl) ?_
        refine s_get hx hb hw inM hown hK hH 5 (by decide) (hw _ (gwd_5 (List.mem_of_getElem? (i := 45) rfl))) (by first | exact ⟨rfl, rfl⟩ | exact ⟨by assumption, rfl⟩ | exact ⟨by assumption, by assumption⟩ | exact ⟨by omega, rfl⟩ | exact ⟨by omega, by omega⟩ | exact ⟨by decide, rfl⟩) rfl rfl rfl rfl dM_turn_38 ?_
        refine lv_iload hx hb dM_turn_41 (lv_at hl 0 rfl) ?_
        refine lv_iload_n hx hb dM_turn_43 rfl (lv_at hl 4 rfl) ?_
        refine m_zast hx hb hK hH hS (by first | exact ⟨rfl, rfl⟩ | exact ⟨by assumption, rfl⟩ | exact ⟨by assumption, by assumption⟩ | exact ⟨by omega, rfl⟩ | exact ⟨by omega, by omega⟩ | exact ⟨by decide, rfl⟩) rfl q eq (show _ < 24 from by first | assumption | decide | omega) (by decide) (by first | exact Or.inl rfl | exact Or.inr rfl | exact bz_01 _ | assumption) rfl dM_turn_44 (fun H locs hH hS => ?_)
        refine lv_aload_n hx hb dM_turn_45 rfl (lv_at hl 1 rfl) ?_
        refine lv_iload hx hb dM_turn_46 (lv_at hl 0 rfl) ?_
        rw [eq]
        refine s_cvE (va_runV (As := [.int _]) (rest := []) ⟨hx, hb, hml, hown, hw⟩ (c_M_look l  (by assumption)) (cwV 1 hw (gd_V (gwd_7 (List.mem_of_getElem? (i := 14) rfl)) (gwd_7 (List.mem_of_getElem? (i := 15) rfl)) (gwd_9 (List.mem_of_getElem? (i := 27) rfl)) (gwd_0 (List.mem_of_getElem? (i := 3) rfl)) (gwd_7 (List.mem_of_getElem? (i := 16) rfl))) rfl rfl rfl (by decide +kernel) ⟨Nat.le_of_ble_eq_true rfl, Nat.le_of_ble_eq_true rfl⟩) (gPre.V (n := (11, 0, 0)) hK hH (by first | exact ⟨rfl, rfl⟩ | exact ⟨by assumption, rfl⟩ | exact ⟨by assumption, by assumption⟩ | exact ⟨by omega, rfl⟩ | exact ⟨by omega, by omega⟩ | exact ⟨by decide, rfl⟩) rfl rfl) rfl rfl hl.1 rfl (lv_room (Nat.le_of_ble_eq_true rfl)) dM_turn_48 ⟨Nat.zero_le _, Nat.zero_le _⟩) hS (fun H locs hH hS => ?_)
        refine lv_iconst (v := 1) hx hb dM_turn_51 (by decide) ?_
        exact r_z hx hb hr hlk hK hH hS dM_turn_52 (by first | exact Or.inl rfl | exact Or.inr rfl | exact bz_01 _ | assumption) (by first | (rw [mTurn, if_pos (Or.inl h_1)]; exact ⟨rfl, rfl⟩) | (rw [mTurn, eq, hiq, if_pos (Or.inr (Or.inl h_2))]; exact ⟨rfl, rfl⟩) | (rw [mTurn, eq, hiq, if_pos (Or.inr (Or.inr h_3))]; exact ⟨rfl, rfl⟩) | (rw [mTurn, eq, hiq, if_neg (fun z => z.elim (fun z => h_1 (by rw [eq]; exact z)) (fun z => z.elim (fun z => z h_2) (fun z => h_3 z)))]; exact ⟨rfl, rfl⟩))
      · skip
        refine lv_iconst (v := 0) hx hb dM_turn_35 (by decide) ?_
        exact r_z hx hb hr hlk hK hH hS dM_turn_36 (by first | exact Or.inl rfl | exact Or.inr rfl | exact bz_01 _ | assumption) (by first | (rw [mTurn, if_pos (Or.inl h_1)]; exact ⟨rfl, rfl⟩) | (rw [mTurn, eq, hiq, if_pos (Or.inr (Or.inl h_2))]; exact ⟨rfl, rfl⟩) | (rw [mTurn, eq, hiq, if_pos (Or.inr (Or.inr h_3))]; exact ⟨rfl, rfl⟩) | (rw [mTurn, eq, hiq, if_neg (fun z => z.elim (fun z => h_1 (by rw [eq]; exact z)) (fun z => z.elim (fun z => z h_2) (fun z => h_3 z)))]; exact ⟨rfl, rfl⟩))
theorem mTurn_01 {J : gI} {G x : Int32} {t : Nat} : (mTurn J G t x).1 = 0 ∨ (mTurn J G t x).1 = 1 := by
  unfold mTurn
  split
  · exact Or.inl rfl
  · exact Or.inr rfl
theorem mPerf_bad {J : gI} {c : Nat} {w : Int32} (h : ∀ n : Nat, n < 11 → ¬ w &&& 15 = nI n) : mPerf J c w = (5, J) := by
  have h0 : ¬ w &&& 15 = 0 := h 0 (by omega)
  have h1 : ¬ w &&& 15 = 1 := h 1 (by omega)
  have h2 : ¬ w &&& 15 = 2 := h 2 (by omega)
  have h3 : ¬ w &&& 15 = 3 := h 3 (by omega)
  have h4 : ¬ w &&& 15 = 4 := h 4 (by omega)
  have h5 : ¬ w &&& 15 = 5 := h 5 (by omega)
  have h6 : ¬ w &&& 15 = 6 := h 6 (by omega)
  have h7 : ¬ w &&& 15 = 7 := h 7 (by omega)
  have h8 : ¬ w &&& 15 = 8 := h 8 (by omega)
  have h9 : ¬ w &&& 15 = 9 := h 9 (by omega)
  have h10 : ¬ w &&& 15 = 10 := h 10 (by omega)
  unfold mPerf
  rw [if_neg h0, if_neg h1, if_neg h2, if_neg h3, if_neg h4, if_neg h5, if_neg (fun q => q.elim h6 h7), if_neg h8, if_neg h9, if_neg h10]
def ctOK (J : gI) (c : Nat) : Prop := ∃ t, t < 256 ∧ J (12, 11, 0) c = nI t
theorem mEnd_ct {J : gI} {c : Nat} {w x : Int32} (h : ∃ t, t < 256 ∧ x = nI t) : ctOK (mEnd J c w x) c := by
  obtain ⟨t, ht, rfl⟩ := h
  exact ⟨t, ht, by simp [mEnd, iu_at]⟩
theorem mWord_ct {J : gI} {c : Nat} {G : Int32} {t : Nat} (h : ctOK J c) : ctOK (mWord J G t).2 c := by
  unfold mWord
  split
  · obtain ⟨t, ht, e⟩ := h
    exact ⟨t, ht, by simp [iu_at]; exact e⟩
  · exact h
theorem mPerf_ct {J : gI} {c : Nat} {w : Int32} (h : ctOK J c) : ctOK (mPerf J c w).2 c := by
  unfold mPerf
  split
  · exact mEnd_ct (and255 _)
  split
  · exact mEnd_ct (and255 _)
  split
  · exact mEnd_ct (and255 _)
  split
  · split
    · exact mWord_ct h
    · exact mEnd_ct (and255 _)
  split
  · split
    · exact mWord_ct h
    · exact mEnd_ct (and255 _)
  split
  · refine mEnd_ct ?_
    split
    · exact and255 _
    · exact and255 _
  split
  · exact mEnd_ct (and255 _)
  split
  · exact mEnd_ct (and255 _)
  split
  · exact mEnd_ct (and255 _)
  split
  · exact mEnd_ct (and255 _)
  · exact h
theorem mStep_ct {J : gI} {c : Nat} (h : ctOK J c) : ctOK (mStep c J).2 c := by
  unfold mStep
  split
  · exact mWord_ct h
  · exact mPerf_ct h
set_option maxHeartbeats 4000000 in
set_option maxRecDepth 100000 in
theorem c_M_step (l : Launch) {D : va_G} {c : Nat → ClassId} {sz : Nat} {ad : gN → Nat} {k : Nat} {I J : gI} {P : gP} {LG : Option Nat} {LP : Option (Nat × Nat)} {q : Nat} (hq : q < 14) (hct : ctOK J q) : Met l yM_step wM_step { frames := 3, cells := 0, slots := 0, locals := 68 } (gPre D c sz [.ref (ad (11, 0, 0)), .int (nI q)] (ad, k, I, J, P, LG, LP)) (va_Qi (fun r u => r = (mStep q J).1 ∧ u = (ad, k, I, (mStep q J).2, P, LG, LP)) (gB D c sz) (gA sz)) 0 0 (gA sz) := by
  refine Met.ofW (cc := cM_step) (maxL := 11) (ret := (some .int)) (by decide) rfl ?_
  intro p e s m args below meth cd s₁ B hml hv
  obtain ⟨rfl, hK, hH⟩ := hv
  have hx := B.exec
  have hb := B.bytes
  have hr := B.returns
  have hts := atoms_spec (ws := wM_step) B.pre
  have hw : ∀ w ∈ gWd, w.before _ s = true := fun w h => hts w (List.mem_cons_of_mem _ h)
  have hown : s.vm.findClass RM = some m.cls := findClass_of_methodNamed B.named
  have hlk := B.notSynchronized
  have hS : va_S (gA sz) s.heap s.heap [] := va_S.rf
  have hH : gW D c sz ad k I J P LG LP s.heap := hH
  have hl := lv_entry ([.ref (ad (11, 0, 0)), .int (nI q)]) (n := 11) (Nat.le_of_ble_eq_true rfl)
  rw [lg_entry_eq]
  generalize (lg_sl ([.ref (ad (11, 0, 0)), .int (nI q)]) ++ List.replicate (11 - (lg_sl ([.ref (ad (11, 0, 0)), .int (nI q)])).length) Slot.unset).toArray = ls at hl ⊢
  have hl : lv_has ls 11 [(0, .ref (ad (11, 0, 0))), (1, .int (nI q))] := hl
  obtain ⟨t, ht, et⟩ := hct
  have e2 : nI q / 2 = nI (q / 2) := pk_div (d := 2) (by omega) (by decide) (by decide)
  refine lv_iload_n hx hb dM_step_0 rfl (lv_at hl 1 rfl) ?_
  refine lv_iconst (v := 2) hx hb dM_step_1 (by decide) ?_
  refine lv_idiv hx hb dM_step_2 (by decide) ?_
  rw [e2]
  refine lv_istore_n hx hb dM_step_3 rfl hl (by decide) rfl (fun ls hl => ?_)
  have hl : lv_has ls 11 [(2, .int _), (0, .ref _), (1, .int _)] := hl
  refine lv_aload_n hx hb dM_step_4 rfl (lv_at hl 1 rfl) ?_
  refine lv_iload_n hx hb dM_step_5 rfl (lv_at hl 0 rfl) ?_
  refine lv_aload_n hx hb dM_step_6 rfl (lv_at hl 1 rfl) ?_
  refine s_get hx hb hw inM hown hK hH 11 (by decide) (hw _ (gwd_6 (List.mem_of_getElem? (i := 3) rfl))) (by first | exact ⟨rfl, rfl⟩ | exact ⟨by assumption, rfl⟩ | exact ⟨by assumption, by assumption⟩ | exact ⟨by omega, rfl⟩ | exact ⟨by omega, by omega⟩ | exact ⟨by decide, rfl⟩) rfl rfl rfl rfl dM_step_7 ?_
  refine lv_iload_n hx hb dM_step_10 rfl (lv_at hl 2 rfl) ?_
  refine m_iald hx hb hK hH (by first | exact ⟨rfl, rfl⟩ | exact ⟨by assumption, rfl⟩ | exact ⟨by assumption, by assumption⟩ | exact ⟨by omega, rfl⟩ | exact ⟨by omega, by omega⟩ | exact ⟨by decide, rfl⟩) rfl _ (by first | rfl | assumption) (show _ < 14 from by omega) (by decide) dM_step_11 ?_
  rw [et]
  refine s_ciE (va_runV (As := [.int _, .int _]) (rest := []) ⟨hx, hb, hml, hown, hw⟩ (c_M_word l  (by assumption)) (cwV 2 hw (gd_V (gwd_8 (List.mem_of_getElem? (i := 26) rfl)) (gwd_8 (List.mem_of_getElem? (i := 27) rfl)) (gwd_9 (List.mem_of_getElem? (i := 35) rfl)) (gwd_0 (List.mem_of_getElem? (i := 3) rfl)) (gwd_8 (List.mem_of_getElem? (i := 28) rfl))) rfl rfl rfl (by decide +kernel) ⟨Nat.le_of_ble_eq_true rfl, Nat.le_of_ble_eq_true rfl⟩) (gPre.V (n := (11, 0, 0)) hK hH (by first | exact ⟨rfl, rfl⟩ | exact ⟨by assumption, rfl⟩ | exact ⟨by assumption, by assumption⟩ | exact ⟨by omega, rfl⟩ | exact ⟨by omega, by omega⟩ | exact ⟨by decide, rfl⟩) rfl rfl) rfl rfl hl.1 rfl (lv_room (Nat.le_of_ble_eq_true rfl)) dM_step_12 ⟨Nat.zero_le _, Nat.zero_le _⟩) hS (fun H locs hH hS => ?_)
  refine lv_istore_n hx hb dM_step_15 rfl hl (by decide) rfl (fun ls hl => ?_)
  have hl : lv_has ls 11 [(3, .int _), (2, .int _), (0, .ref _), (1, .int _)] := hl
  refine lv_iload_n hx hb dM_step_16 rfl (lv_at hl 0 rfl) ?_
  refine lv_if_ge hx hb dM_step_17 rfl (fun h_1 => ?_) (fun h_1 => ?_)
  · skip
    obtain ⟨jw, hjw, ew, est⟩ := mWord_nn (Int32.not_lt.mpr h_1)
    rw [est] at hH
    refine lv_aload_n hx hb dM_step_22 rfl (lv_at hl 2 rfl) ?_
    refine s_get hx hb hw inM hown hK hH 0 (by decide) (hw _ (gwd_5 (List.mem_of_getElem? (i := 40) rfl))) (by first | exact ⟨rfl, rfl⟩ | exact ⟨by assumption, rfl⟩ | exact ⟨by assumption, by assumption⟩ | exact ⟨by omega, rfl⟩ | exact ⟨by omega, by omega⟩ | exact ⟨by decide, rfl⟩) rfl rfl rfl rfl dM_step_23 ?_
    refine lv_iload_n hx hb dM_step_26 rfl (lv_at hl 0 rfl) ?_
    refine m_iald hx hb hK hH (by first | exact ⟨rfl, rfl⟩ | exact ⟨by assumption, rfl⟩ | exact ⟨by assumption, by assumption⟩ | exact ⟨by omega, rfl⟩ | exact ⟨by omega, by omega⟩ | exact ⟨by decide, rfl⟩) rfl jw ew (show _ < 96 from by first | assumption | decide | omega) (by decide) dM_step_27 ?_
    generalize hwv : J (12, 0, 0) jw = w
    have hs : mStep q J = mPerf J q w := by unfold mStep; rw [et, ix_nI (show t < 2 ^ 31 by omega), if_neg (Int32.not_lt.mpr h_1), ew, ix_nI (show jw < 2 ^ 31 by omega)]; rw [← hwv]
    obtain ⟨o, ho, eo⟩ := pk_andE (m := 15) w 4 (by decide)
    obtain ⟨a, ha, ea⟩ := pk_andE (m := 3) (w >>> ((4 : Int32) &&& 31)) 2 (by decide)
    obtain ⟨b, hbb, eb⟩ := pk_andE (m := 3) (w >>> ((6 : Int32) &&& 31)) 2 (by decide)
    have hA : wA w = a := by show ix (w >>> ((4 : Int32) &&& 31) &&& 3) = a; rw [ea]; exact ix_nI (by omega)
    have hB : wB w = b := by show ix (w >>> ((6 : Int32) &&& 31) &&& 3) = b; rw [eb]; exact ix_nI (by omega)
    have ho : o < 16 := ho
    have ha : a < 4 := ha
    have hbb : b < 4 := hbb
    have hbg : 10 < o → ∀ n : Nat, n < 11 → ¬ w &&& 15 = nI n := fun h n hn z => by have := n32 (by omega) (by omega) (eo.symm.trans z); omega
    refine lv_istore hx hb dM_step_28 hl (by decide) rfl (fun ls hl => ?_)
    have hl : lv_has ls 11 [(4, .int _), (3, .int _), (2, .int _), (0, .ref _), (1, .int _)] := hl
    refine lv_iload hx hb dM_step_30 (lv_at hl 0 rfl) ?_
    refine lv_bipush (v := 15) hx hb dM_step_32 (by decide) ?_
    refine lv_iand hx hb dM_step_34 ?_
    rw [eo]
    refine lv_istore hx hb dM_step_35 hl (by decide) rfl (fun ls hl => ?_)
    have hl : lv_has ls 11 [(5, .int _), (4, .int _), (3, .int _), (2, .int _), (0, .ref _), (1, .int _)] := hl
    refine lv_iconst (v := 4) hx hb dM_step_37 (by decide) ?_
    refine lv_iload_n hx hb dM_step_38 rfl (lv_at hl 5 rfl) ?_
    refine lv_imul hx hb dM_step_39 ?_
    refine lv_iload hx hb dM_step_40 (lv_at hl 1 rfl) ?_
    refine lv_iconst (v := 4) hx hb dM_step_42 (by decide) ?_
    refine lv_ishr hx hb dM_step_43 ?_
    refine lv_iconst (v := 3) hx hb dM_step_44 (by decide) ?_
    refine lv_iand hx hb dM_step_45 ?_
    rw [ea]
    refine lv_iadd hx hb dM_step_46 ?_
    rw [idx4 q a]
    refine lv_istore hx hb dM_step_47 hl (by decide) rfl (fun ls hl => ?_)
    have hl : lv_has ls 11 [(6, .int _), (5, .int _), (4, .int _), (3, .int _), (2, .int _), (0, .ref _), (1, .int _)] := hl
    refine lv_aload_n hx hb dM_step_49 rfl (lv_at hl 5 rfl) ?_
    refine s_get hx hb hw inM hown hK hH 10 (by decide) (hw _ (gwd_6 (List.mem_of_getElem? (i := 2) rfl))) (by first | exact ⟨rfl, rfl⟩ | exact ⟨by assumption, rfl⟩ | exact ⟨by assumption, by assumption⟩ | exact ⟨by omega, rfl⟩ | exact ⟨by omega, by omega⟩ | exact ⟨by decide, rfl⟩) rfl rfl rfl rfl dM_step_50 ?_
    refine lv_iconst (v := 4) hx hb dM_step_53 (by decide) ?_
    refine lv_iload_n hx hb dM_step_54 rfl (lv_at hl 6 rfl) ?_
    refine lv_imul hx hb dM_step_55 ?_
    refine lv_iload hx hb dM_step_56 (lv_at hl 2 rfl) ?_
    refine lv_bipush (v := 6) hx hb dM_step_58 (by decide) ?_
    refine lv_ishr hx hb dM_step_60 ?_
    refine lv_iconst (v := 3) hx hb dM_step_61 (by decide) ?_
    refine lv_iand hx hb dM_step_62 ?_
    rw [eb]
    refine lv_iadd hx hb dM_step_63 ?_
    refine m_iald hx hb hK hH (by first | exact ⟨rfl, rfl⟩ | exact ⟨by assumption, rfl⟩ | exact ⟨by assumption, by assumption⟩ | exact ⟨by omega, rfl⟩ | exact ⟨by omega, by omega⟩ | exact ⟨by decide, rfl⟩) rfl (4 * q + b) (idx4 q b) (show _ < 56 from by omega) (by decide) dM_step_64 ?_
    refine lv_istore hx hb dM_step_65 hl (by decide) rfl (fun ls hl => ?_)
    have hl : lv_has ls 11 [(7, .int _), (6, .int _), (5, .int _), (4, .int _), (3, .int _), (2, .int _), (0, .ref _), (1, .int _)] := hl
    refine lv_iload hx hb dM_step_67 (lv_at hl 3 rfl) ?_
    refine lv_bipush (v := 8) hx hb dM_step_69 (by decide) ?_
    refine lv_ishr hx hb dM_step_71 ?_
    refine lv_istore hx hb dM_step_72 hl (by decide) rfl (fun ls hl => ?_)
    have hl : lv_has ls 11 [(8, .int _), (7, .int _), (6, .int _), (5, .int _), (4, .int _), (3, .int _), (2, .int _), (0, .ref _), (1, .int _)] := hl
    rcases (show o = 0 ∨ o = 1 ∨ o = 2 ∨ o = 3 ∨ o = 4 ∨ o = 5 ∨ o = 6 ∨ o = 7 ∨ o = 8 ∨ o = 9 ∨ o = 10 ∨ 10 < o by omega) with rfl | rfl | rfl | rfl | rfl | rfl | rfl | rfl | rfl | rfl | rfl | hbig
    · have eo : w &&& 15 = 0 := eo
      refine lv_iload hx hb dM_step_74 (lv_at hl 3 rfl) ?_
      refine lv_bipush (v := 10) hx hb dM_step_76 (by decide) ?_
      refine lv_icmp_le hx hb dM_step_78 rfl (fun h_2 => ?_) (fun h_2 => ?_)
      · skip
        refine lv_aload_n hx hb dM_step_83 rfl (lv_at hl 7 rfl) ?_
        refine s_get hx hb hw inM hown hK hH 11 (by decide) (hw _ (gwd_6 (List.mem_of_getElem? (i := 3) rfl))) (by first | exact ⟨rfl, rfl⟩ | exact ⟨by assumption, rfl⟩ | exact ⟨by assumption, by assumption⟩ | exact ⟨by omega, rfl⟩ | exact ⟨by omega, by omega⟩ | exact ⟨by decide, rfl⟩) rfl rfl rfl rfl dM_step_84 ?_
        refine lv_iload_n hx hb dM_step_87 rfl (lv_at hl 8 rfl) ?_
        refine m_iald hx hb hK hH (by first | exact ⟨rfl, rfl⟩ | exact ⟨by assumption, rfl⟩ | exact ⟨by assumption, by assumption⟩ | exact ⟨by omega, rfl⟩ | exact ⟨by omega, by omega⟩ | exact ⟨by decide, rfl⟩) rfl _ (by first | rfl | assumption) (show _ < 14 from by omega) (by decide) dM_step_88 ?_
        refine lv_iconst (v := 1) hx hb dM_step_89 (by decide) ?_
        refine lv_iadd hx hb dM_step_90 ?_
        refine lv_sipush (v := 255) hx hb dM_step_91 (by decide) ?_
        refine lv_iand hx hb dM_step_94 ?_
        refine lv_istore hx hb dM_step_95 hl (by decide) rfl (fun ls hl => ?_)
        have hl : lv_has ls 11 [(9, .int _), (8, .int _), (7, .int _), (6, .int _), (5, .int _), (4, .int _), (3, .int _), (2, .int _), (0, .ref _), (1, .int _)] := hl
        refine lv_iload hx hb dM_step_97 (lv_at hl 4 rfl) ?_
        refine lv_iconst (v := 3) hx hb dM_step_99 (by decide) ?_
        refine lv_icmp_eq hx hb dM_step_100 rfl (fun h_3 => ?_) (fun h_3 => ?_)
        · exact absurd h_3 (by decide)
        · skip
          refine lv_iload hx hb dM_step_103 (lv_at hl 4 rfl) ?_
          refine lv_iconst (v := 4) hx hb dM_step_105 (by decide) ?_
          refine lv_icmp_ne hx hb dM_step_106 rfl (fun h_4 => ?_) (fun h_4 => ?_)
          · skip
            refine lv_iload hx hb dM_step_172 (lv_at hl 4 rfl) ?_
            refine lv_bipush (v := 6) hx hb dM_step_174 (by decide) ?_
            refine lv_icmp_eq hx hb dM_step_176 rfl (fun h_5 => ?_) (fun h_5 => ?_)
            · exact absurd h_5 (by decide)
            · skip
              refine lv_iload hx hb dM_step_179 (lv_at hl 4 rfl) ?_
              refine lv_bipush (v := 7) hx hb dM_step_181 (by decide) ?_
              refine lv_icmp_ne hx hb dM_step_183 rfl (fun h_6 => ?_) (fun h_6 => ?_)
              · skip
                refine lv_iload hx hb dM_step_231 (lv_at hl 4 rfl) ?_
                refine lv_iconst (v := 5) hx hb dM_step_233 (by decide) ?_
                refine lv_icmp_ne hx hb dM_step_234 rfl (fun h_7 => ?_) (fun h_7 => ?_)
                · skip
                  refine lv_iload hx hb dM_step_263 (lv_at hl 4 rfl) ?_
                  refine lv_iconst (v := 1) hx hb dM_step_265 (by decide) ?_
                  refine lv_icmp_ne hx hb dM_step_266 rfl (fun h_8 => ?_) (fun h_8 => ?_)
                  · skip
                    refine lv_iload hx hb dM_step_281 (lv_at hl 4 rfl) ?_
                    refine lv_iconst (v := 2) hx hb dM_step_283 (by decide) ?_
                    refine lv_icmp_ne hx hb dM_step_284 rfl (fun h_9 => ?_) (fun h_9 => ?_)
                    · skip
                      refine lv_iload hx hb dM_step_302 (lv_at hl 4 rfl) ?_
                      refine lv_bipush (v := 10) hx hb dM_step_304 (by decide) ?_
                      refine lv_icmp_ne hx hb dM_step_306 rfl (fun h_10 => ?_) (fun h_10 => ?_)
                      · skip
                        refine lv_aload_n hx hb dM_step_321 rfl (lv_at hl 8 rfl) ?_
                        refine s_get hx hb hw inM hown hK hH 11 (by decide) (hw _ (gwd_6 (List.mem_of_getElem? (i := 3) rfl))) (by first | exact ⟨rfl, rfl⟩ | exact ⟨by assumption, rfl⟩ | exact ⟨by assumption, by assumption⟩ | exact ⟨by omega, rfl⟩ | exact ⟨by omega, by omega⟩ | exact ⟨by decide, rfl⟩) rfl rfl rfl rfl dM_step_322 ?_
                        refine lv_iload_n hx hb dM_step_325 rfl (lv_at hl 9 rfl) ?_
                        refine lv_iload hx hb dM_step_326 (lv_at hl 0 rfl) ?_
                        refine m_iast hx hb hK hH hS (by first | exact ⟨rfl, rfl⟩ | exact ⟨by assumption, rfl⟩ | exact ⟨by assumption, by assumption⟩ | exact ⟨by omega, rfl⟩ | exact ⟨by omega, by omega⟩ | exact ⟨by decide, rfl⟩) rfl _ (by first | rfl | assumption) (show _ < 14 from by omega) (by decide) rfl dM_step_328 (fun H locs hH hS => ?_)
                        refine lv_aload_n hx hb dM_step_329 rfl (lv_at hl 8 rfl) ?_
                        refine lv_iload hx hb dM_step_330 (lv_at hl 4 rfl) ?_
                        refine lv_bipush (v := 8) hx hb dM_step_332 (by decide) ?_
                        refine lv_icmp_ne hx hb dM_step_334 rfl (fun h_11 => ?_) (fun h_11 => ?_)
                        · skip
                          refine lv_iconst (v := 0) hx hb dM_step_347 (by decide) ?_
                          refine m_put hx hb hw inM tyM_ok nM hown hK hH hS 14 (by decide) (hw _ (gwd_6 (List.mem_of_getElem? (i := 6) rfl))) (by first | exact ⟨rfl, rfl⟩ | exact ⟨by assumption, rfl⟩ | exact ⟨by assumption, by assumption⟩ | exact ⟨by omega, rfl⟩ | exact ⟨by omega, by omega⟩ | exact ⟨by decide, rfl⟩) rfl rfl rfl rfl rfl rfl rfl (Nat.le_of_ble_eq_true rfl) rfl dM_step_348 (fun H locs hH hS => ?_)
                          refine lv_aload_n hx hb dM_step_351 rfl (lv_at hl 8 rfl) ?_
                          refine s_get hx hb hw inM hown hK hH 12 (by decide) (hw _ (gwd_6 (List.mem_of_getElem? (i := 4) rfl))) (by first | exact ⟨rfl, rfl⟩ | exact ⟨by assumption, rfl⟩ | exact ⟨by assumption, by assumption⟩ | exact ⟨by omega, rfl⟩ | exact ⟨by omega, by omega⟩ | exact ⟨by decide, rfl⟩) rfl rfl rfl rfl dM_step_352 ?_
                          refine lv_iload_n hx hb dM_step_355 rfl (lv_at hl 9 rfl) ?_
                          refine lv_iload hx hb dM_step_356 (lv_at hl 4 rfl) ?_
                          refine lv_bipush (v := 9) hx hb dM_step_358 (by decide) ?_
                          refine lv_icmp_ne hx hb dM_step_360 rfl (fun h_12 => ?_) (fun h_12 => ?_)
                          · skip
                            refine lv_iconst (v := 0) hx hb dM_step_374 (by decide) ?_
                            refine m_iast hx hb hK hH hS (by first | exact ⟨rfl, rfl⟩ | exact ⟨by assumption, rfl⟩ | exact ⟨by assumption, by assumption⟩ | exact ⟨by omega, rfl⟩ | exact ⟨by omega, by omega⟩ | exact ⟨by decide, rfl⟩) rfl _ (by first | rfl | assumption) (show _ < 14 from by omega) (by decide) rfl dM_step_375 (fun H locs hH hS => ?_)
                            refine lv_iload hx hb dM_step_376 (lv_at hl 4 rfl) ?_
                            refine lv_bipush (v := 8) hx hb dM_step_378 (by decide) ?_
                            refine lv_icmp_ne hx hb dM_step_380 rfl (fun h_13 => ?_) (fun h_13 => ?_)
                            · skip
                              refine lv_iload hx hb dM_step_387 (lv_at hl 4 rfl) ?_
                              refine lv_bipush (v := 9) hx hb dM_step_389 (by decide) ?_
                              refine lv_icmp_ne hx hb dM_step_391 rfl (fun h_14 => ?_) (fun h_14 => ?_)
                              · skip
                                refine lv_iload hx hb dM_step_398 (lv_at hl 4 rfl) ?_
                                refine lv_if_ne hx hb dM_step_400 rfl (fun h_15 => ?_) (fun h_15 => ?_)
                                · exact absurd h_15 (by decide)
                                · skip
                                  refine lv_iconst (v := 4) hx hb dM_step_403 (by decide) ?_
                                  refine lv_goto hx hb dM_step_404 rfl ?_
                                  exact r_i hx hb hr hlk hK hH hS dM_step_408 (by rw [hs]; simp [mPerf, eo, hA, hB, mEnd, iu_at, h_1])
                              · exact absurd h_14 (by decide)
                            · exact absurd h_13 (by decide)
                          · exact absurd h_12 (by decide)
                        · exact absurd h_11 (by decide)
                      · exact absurd h_10 (by decide)
                    · exact absurd h_9 (by decide)
                  · exact absurd h_8 (by decide)
                · exact absurd h_7 (by decide)
              · exact absurd h_6 (by decide)
          · exact absurd h_4 (by decide)
      · exact absurd h_2 (by decide)
    · have eo : w &&& 15 = 1 := eo
      refine lv_iload hx hb dM_step_74 (lv_at hl 3 rfl) ?_
      refine lv_bipush (v := 10) hx hb dM_step_76 (by decide) ?_
      refine lv_icmp_le hx hb dM_step_78 rfl (fun h_16 => ?_) (fun h_16 => ?_)
      · skip
        refine lv_aload_n hx hb dM_step_83 rfl (lv_at hl 7 rfl) ?_
        refine s_get hx hb hw inM hown hK hH 11 (by decide) (hw _ (gwd_6 (List.mem_of_getElem? (i := 3) rfl))) (by first | exact ⟨rfl, rfl⟩ | exact ⟨by assumption, rfl⟩ | exact ⟨by assumption, by assumption⟩ | exact ⟨by omega, rfl⟩ | exact ⟨by omega, by omega⟩ | exact ⟨by decide, rfl⟩) rfl rfl rfl rfl dM_step_84 ?_
        refine lv_iload_n hx hb dM_step_87 rfl (lv_at hl 8 rfl) ?_
        refine m_iald hx hb hK hH (by first | exact ⟨rfl, rfl⟩ | exact ⟨by assumption, rfl⟩ | exact ⟨by assumption, by assumption⟩ | exact ⟨by omega, rfl⟩ | exact ⟨by omega, by omega⟩ | exact ⟨by decide, rfl⟩) rfl _ (by first | rfl | assumption) (show _ < 14 from by omega) (by decide) dM_step_88 ?_
        refine lv_iconst (v := 1) hx hb dM_step_89 (by decide) ?_
        refine lv_iadd hx hb dM_step_90 ?_
        refine lv_sipush (v := 255) hx hb dM_step_91 (by decide) ?_
        refine lv_iand hx hb dM_step_94 ?_
        refine lv_istore hx hb dM_step_95 hl (by decide) rfl (fun ls hl => ?_)
        have hl : lv_has ls 11 [(9, .int _), (8, .int _), (7, .int _), (6, .int _), (5, .int _), (4, .int _), (3, .int _), (2, .int _), (0, .ref _), (1, .int _)] := hl
        refine lv_iload hx hb dM_step_97 (lv_at hl 4 rfl) ?_
        refine lv_iconst (v := 3) hx hb dM_step_99 (by decide) ?_
        refine lv_icmp_eq hx hb dM_step_100 rfl (fun h_17 => ?_) (fun h_17 => ?_)
        · exact absurd h_17 (by decide)
        · skip
          refine lv_iload hx hb dM_step_103 (lv_at hl 4 rfl) ?_
          refine lv_iconst (v := 4) hx hb dM_step_105 (by decide) ?_
          refine lv_icmp_ne hx hb dM_step_106 rfl (fun h_18 => ?_) (fun h_18 => ?_)
          · skip
            refine lv_iload hx hb dM_step_172 (lv_at hl 4 rfl) ?_
            refine lv_bipush (v := 6) hx hb dM_step_174 (by decide) ?_
            refine lv_icmp_eq hx hb dM_step_176 rfl (fun h_19 => ?_) (fun h_19 => ?_)
            · exact absurd h_19 (by decide)
            · skip
              refine lv_iload hx hb dM_step_179 (lv_at hl 4 rfl) ?_
              refine lv_bipush (v := 7) hx hb dM_step_181 (by decide) ?_
              refine lv_icmp_ne hx hb dM_step_183 rfl (fun h_20 => ?_) (fun h_20 => ?_)
              · skip
                refine lv_iload hx hb dM_step_231 (lv_at hl 4 rfl) ?_
                refine lv_iconst (v := 5) hx hb dM_step_233 (by decide) ?_
                refine lv_icmp_ne hx hb dM_step_234 rfl (fun h_21 => ?_) (fun h_21 => ?_)
                · skip
                  refine lv_iload hx hb dM_step_263 (lv_at hl 4 rfl) ?_
                  refine lv_iconst (v := 1) hx hb dM_step_265 (by decide) ?_
                  refine lv_icmp_ne hx hb dM_step_266 rfl (fun h_22 => ?_) (fun h_22 => ?_)
                  · exact absurd h_22 (by decide)
                  · skip
                    refine lv_aload_n hx hb dM_step_269 rfl (lv_at hl 8 rfl) ?_
                    refine s_get hx hb hw inM hown hK hH 10 (by decide) (hw _ (gwd_6 (List.mem_of_getElem? (i := 2) rfl))) (by first | exact ⟨rfl, rfl⟩ | exact ⟨by assumption, rfl⟩ | exact ⟨by assumption, by assumption⟩ | exact ⟨by omega, rfl⟩ | exact ⟨by omega, by omega⟩ | exact ⟨by decide, rfl⟩) rfl rfl rfl rfl dM_step_270 ?_
                    refine lv_iload hx hb dM_step_273 (lv_at hl 3 rfl) ?_
                    refine lv_iload hx hb dM_step_275 (lv_at hl 1 rfl) ?_
                    refine m_iast hx hb hK hH hS (by first | exact ⟨rfl, rfl⟩ | exact ⟨by assumption, rfl⟩ | exact ⟨by assumption, by assumption⟩ | exact ⟨by omega, rfl⟩ | exact ⟨by omega, by omega⟩ | exact ⟨by decide, rfl⟩) rfl (4 * q + a) rfl (show _ < 56 from by omega) (by decide) rfl dM_step_277 (fun H locs hH hS => ?_)
                    refine lv_goto hx hb dM_step_278 rfl ?_
                    refine lv_aload_n hx hb dM_step_321 rfl (lv_at hl 8 rfl) ?_
                    refine s_get hx hb hw inM hown hK hH 11 (by decide) (hw _ (gwd_6 (List.mem_of_getElem? (i := 3) rfl))) (by first | exact ⟨rfl, rfl⟩ | exact ⟨by assumption, rfl⟩ | exact ⟨by assumption, by assumption⟩ | exact ⟨by omega, rfl⟩ | exact ⟨by omega, by omega⟩ | exact ⟨by decide, rfl⟩) rfl rfl rfl rfl dM_step_322 ?_
                    refine lv_iload_n hx hb dM_step_325 rfl (lv_at hl 9 rfl) ?_
                    refine lv_iload hx hb dM_step_326 (lv_at hl 0 rfl) ?_
                    refine m_iast hx hb hK hH hS (by first | exact ⟨rfl, rfl⟩ | exact ⟨by assumption, rfl⟩ | exact ⟨by assumption, by assumption⟩ | exact ⟨by omega, rfl⟩ | exact ⟨by omega, by omega⟩ | exact ⟨by decide, rfl⟩) rfl _ (by first | rfl | assumption) (show _ < 14 from by omega) (by decide) rfl dM_step_328 (fun H locs hH hS => ?_)
                    refine lv_aload_n hx hb dM_step_329 rfl (lv_at hl 8 rfl) ?_
                    refine lv_iload hx hb dM_step_330 (lv_at hl 4 rfl) ?_
                    refine lv_bipush (v := 8) hx hb dM_step_332 (by decide) ?_
                    refine lv_icmp_ne hx hb dM_step_334 rfl (fun h_23 => ?_) (fun h_23 => ?_)
                    · skip
                      refine lv_iconst (v := 0) hx hb dM_step_347 (by decide) ?_
                      refine m_put hx hb hw inM tyM_ok nM hown hK hH hS 14 (by decide) (hw _ (gwd_6 (List.mem_of_getElem? (i := 6) rfl))) (by first | exact ⟨rfl, rfl⟩ | exact ⟨by assumption, rfl⟩ | exact ⟨by assumption, by assumption⟩ | exact ⟨by omega, rfl⟩ | exact ⟨by omega, by omega⟩ | exact ⟨by decide, rfl⟩) rfl rfl rfl rfl rfl rfl rfl (Nat.le_of_ble_eq_true rfl) rfl dM_step_348 (fun H locs hH hS => ?_)
                      refine lv_aload_n hx hb dM_step_351 rfl (lv_at hl 8 rfl) ?_
                      refine s_get hx hb hw inM hown hK hH 12 (by decide) (hw _ (gwd_6 (List.mem_of_getElem? (i := 4) rfl))) (by first | exact ⟨rfl, rfl⟩ | exact ⟨by assumption, rfl⟩ | exact ⟨by assumption, by assumption⟩ | exact ⟨by omega, rfl⟩ | exact ⟨by omega, by omega⟩ | exact ⟨by decide, rfl⟩) rfl rfl rfl rfl dM_step_352 ?_
                      refine lv_iload_n hx hb dM_step_355 rfl (lv_at hl 9 rfl) ?_
                      refine lv_iload hx hb dM_step_356 (lv_at hl 4 rfl) ?_
                      refine lv_bipush (v := 9) hx hb dM_step_358 (by decide) ?_
                      refine lv_icmp_ne hx hb dM_step_360 rfl (fun h_24 => ?_) (fun h_24 => ?_)
                      · skip
                        refine lv_iconst (v := 0) hx hb dM_step_374 (by decide) ?_
                        refine m_iast hx hb hK hH hS (by first | exact ⟨rfl, rfl⟩ | exact ⟨by assumption, rfl⟩ | exact ⟨by assumption, by assumption⟩ | exact ⟨by omega, rfl⟩ | exact ⟨by omega, by omega⟩ | exact ⟨by decide, rfl⟩) rfl _ (by first | rfl | assumption) (show _ < 14 from by omega) (by decide) rfl dM_step_375 (fun H locs hH hS => ?_)
                        refine lv_iload hx hb dM_step_376 (lv_at hl 4 rfl) ?_
                        refine lv_bipush (v := 8) hx hb dM_step_378 (by decide) ?_
                        refine lv_icmp_ne hx hb dM_step_380 rfl (fun h_25 => ?_) (fun h_25 => ?_)
                        · skip
                          refine lv_iload hx hb dM_step_387 (lv_at hl 4 rfl) ?_
                          refine lv_bipush (v := 9) hx hb dM_step_389 (by decide) ?_
                          refine lv_icmp_ne hx hb dM_step_391 rfl (fun h_26 => ?_) (fun h_26 => ?_)
                          · skip
                            refine lv_iload hx hb dM_step_398 (lv_at hl 4 rfl) ?_
                            refine lv_if_ne hx hb dM_step_400 rfl (fun h_27 => ?_) (fun h_27 => ?_)
                            · skip
                              refine lv_iconst (v := 0) hx hb dM_step_407 (by decide) ?_
                              exact r_i hx hb hr hlk hK hH hS dM_step_408 (by rw [hs]; simp [mPerf, eo, hA, hB, mEnd, iu_at, h_1])
                            · exact absurd h_27 (by decide)
                          · exact absurd h_26 (by decide)
                        · exact absurd h_25 (by decide)
                      · exact absurd h_24 (by decide)
                    · exact absurd h_23 (by decide)
                · exact absurd h_21 (by decide)
              · exact absurd h_20 (by decide)
          · exact absurd h_18 (by decide)
      · exact absurd h_16 (by decide)
    · have eo : w &&& 15 = 2 := eo
      refine lv_iload hx hb dM_step_74 (lv_at hl 3 rfl) ?_
      refine lv_bipush (v := 10) hx hb dM_step_76 (by decide) ?_
      refine lv_icmp_le hx hb dM_step_78 rfl (fun h_28 => ?_) (fun h_28 => ?_)
      · skip
        refine lv_aload_n hx hb dM_step_83 rfl (lv_at hl 7 rfl) ?_
        refine s_get hx hb hw inM hown hK hH 11 (by decide) (hw _ (gwd_6 (List.mem_of_getElem? (i := 3) rfl))) (by first | exact ⟨rfl, rfl⟩ | exact ⟨by assumption, rfl⟩ | exact ⟨by assumption, by assumption⟩ | exact ⟨by omega, rfl⟩ | exact ⟨by omega, by omega⟩ | exact ⟨by decide, rfl⟩) rfl rfl rfl rfl dM_step_84 ?_
        refine lv_iload_n hx hb dM_step_87 rfl (lv_at hl 8 rfl) ?_
        refine m_iald hx hb hK hH (by first | exact ⟨rfl, rfl⟩ | exact ⟨by assumption, rfl⟩ | exact ⟨by assumption, by assumption⟩ | exact ⟨by omega, rfl⟩ | exact ⟨by omega, by omega⟩ | exact ⟨by decide, rfl⟩) rfl _ (by first | rfl | assumption) (show _ < 14 from by omega) (by decide) dM_step_88 ?_
        refine lv_iconst (v := 1) hx hb dM_step_89 (by decide) ?_
        refine lv_iadd hx hb dM_step_90 ?_
        refine lv_sipush (v := 255) hx hb dM_step_91 (by decide) ?_
        refine lv_iand hx hb dM_step_94 ?_
        refine lv_istore hx hb dM_step_95 hl (by decide) rfl (fun ls hl => ?_)
        have hl : lv_has ls 11 [(9, .int _), (8, .int _), (7, .int _), (6, .int _), (5, .int _), (4, .int _), (3, .int _), (2, .int _), (0, .ref _), (1, .int _)] := hl
        refine lv_iload hx hb dM_step_97 (lv_at hl 4 rfl) ?_
        refine lv_iconst (v := 3) hx hb dM_step_99 (by decide) ?_
        refine lv_icmp_eq hx hb dM_step_100 rfl (fun h_29 => ?_) (fun h_29 => ?_)
        · exact absurd h_29 (by decide)
        · skip
          refine lv_iload hx hb dM_step_103 (lv_at hl 4 rfl) ?_
          refine lv_iconst (v := 4) hx hb dM_step_105 (by decide) ?_
          refine lv_icmp_ne hx hb dM_step_106 rfl (fun h_30 => ?_) (fun h_30 => ?_)
          · skip
            refine lv_iload hx hb dM_step_172 (lv_at hl 4 rfl) ?_
            refine lv_bipush (v := 6) hx hb dM_step_174 (by decide) ?_
            refine lv_icmp_eq hx hb dM_step_176 rfl (fun h_31 => ?_) (fun h_31 => ?_)
            · exact absurd h_31 (by decide)
            · skip
              refine lv_iload hx hb dM_step_179 (lv_at hl 4 rfl) ?_
              refine lv_bipush (v := 7) hx hb dM_step_181 (by decide) ?_
              refine lv_icmp_ne hx hb dM_step_183 rfl (fun h_32 => ?_) (fun h_32 => ?_)
              · skip
                refine lv_iload hx hb dM_step_231 (lv_at hl 4 rfl) ?_
                refine lv_iconst (v := 5) hx hb dM_step_233 (by decide) ?_
                refine lv_icmp_ne hx hb dM_step_234 rfl (fun h_33 => ?_) (fun h_33 => ?_)
                · skip
                  refine lv_iload hx hb dM_step_263 (lv_at hl 4 rfl) ?_
                  refine lv_iconst (v := 1) hx hb dM_step_265 (by decide) ?_
                  refine lv_icmp_ne hx hb dM_step_266 rfl (fun h_34 => ?_) (fun h_34 => ?_)
                  · skip
                    refine lv_iload hx hb dM_step_281 (lv_at hl 4 rfl) ?_
                    refine lv_iconst (v := 2) hx hb dM_step_283 (by decide) ?_
                    refine lv_icmp_ne hx hb dM_step_284 rfl (fun h_35 => ?_) (fun h_35 => ?_)
                    · exact absurd h_35 (by decide)
                    · skip
                      refine lv_aload_n hx hb dM_step_287 rfl (lv_at hl 8 rfl) ?_
                      refine s_get hx hb hw inM hown hK hH 10 (by decide) (hw _ (gwd_6 (List.mem_of_getElem? (i := 2) rfl))) (by first | exact ⟨rfl, rfl⟩ | exact ⟨by assumption, rfl⟩ | exact ⟨by assumption, by assumption⟩ | exact ⟨by omega, rfl⟩ | exact ⟨by omega, by omega⟩ | exact ⟨by decide, rfl⟩) rfl rfl rfl rfl dM_step_288 ?_
                      refine lv_iload hx hb dM_step_291 (lv_at hl 3 rfl) ?_
                      refine lv_dup2_11 hx hb dM_step_293 rfl rfl ?_
                      refine m_iald hx hb hK hH (by first | exact ⟨rfl, rfl⟩ | exact ⟨by assumption, rfl⟩ | exact ⟨by assumption, by assumption⟩ | exact ⟨by omega, rfl⟩ | exact ⟨by omega, by omega⟩ | exact ⟨by decide, rfl⟩) rfl (4 * q + a) rfl (show _ < 56 from by omega) (by decide) dM_step_294 ?_
                      refine lv_iload hx hb dM_step_295 (lv_at hl 2 rfl) ?_
                      refine lv_iadd hx hb dM_step_297 ?_
                      refine m_iast hx hb hK hH hS (by first | exact ⟨rfl, rfl⟩ | exact ⟨by assumption, rfl⟩ | exact ⟨by assumption, by assumption⟩ | exact ⟨by omega, rfl⟩ | exact ⟨by omega, by omega⟩ | exact ⟨by decide, rfl⟩) rfl (4 * q + a) rfl (show _ < 56 from by omega) (by decide) rfl dM_step_298 (fun H locs hH hS => ?_)
                      refine lv_goto hx hb dM_step_299 rfl ?_
                      refine lv_aload_n hx hb dM_step_321 rfl (lv_at hl 8 rfl) ?_
                      refine s_get hx hb hw inM hown hK hH 11 (by decide) (hw _ (gwd_6 (List.mem_of_getElem? (i := 3) rfl))) (by first | exact ⟨rfl, rfl⟩ | exact ⟨by assumption, rfl⟩ | exact ⟨by assumption, by assumption⟩ | exact ⟨by omega, rfl⟩ | exact ⟨by omega, by omega⟩ | exact ⟨by decide, rfl⟩) rfl rfl rfl rfl dM_step_322 ?_
                      refine lv_iload_n hx hb dM_step_325 rfl (lv_at hl 9 rfl) ?_
                      refine lv_iload hx hb dM_step_326 (lv_at hl 0 rfl) ?_
                      refine m_iast hx hb hK hH hS (by first | exact ⟨rfl, rfl⟩ | exact ⟨by assumption, rfl⟩ | exact ⟨by assumption, by assumption⟩ | exact ⟨by omega, rfl⟩ | exact ⟨by omega, by omega⟩ | exact ⟨by decide, rfl⟩) rfl _ (by first | rfl | assumption) (show _ < 14 from by omega) (by decide) rfl dM_step_328 (fun H locs hH hS => ?_)
                      refine lv_aload_n hx hb dM_step_329 rfl (lv_at hl 8 rfl) ?_
                      refine lv_iload hx hb dM_step_330 (lv_at hl 4 rfl) ?_
                      refine lv_bipush (v := 8) hx hb dM_step_332 (by decide) ?_
                      refine lv_icmp_ne hx hb dM_step_334 rfl (fun h_36 => ?_) (fun h_36 => ?_)
                      · skip
                        refine lv_iconst (v := 0) hx hb dM_step_347 (by decide) ?_
                        refine m_put hx hb hw inM tyM_ok nM hown hK hH hS 14 (by decide) (hw _ (gwd_6 (List.mem_of_getElem? (i := 6) rfl))) (by first | exact ⟨rfl, rfl⟩ | exact ⟨by assumption, rfl⟩ | exact ⟨by assumption, by assumption⟩ | exact ⟨by omega, rfl⟩ | exact ⟨by omega, by omega⟩ | exact ⟨by decide, rfl⟩) rfl rfl rfl rfl rfl rfl rfl (Nat.le_of_ble_eq_true rfl) rfl dM_step_348 (fun H locs hH hS => ?_)
                        refine lv_aload_n hx hb dM_step_351 rfl (lv_at hl 8 rfl) ?_
                        refine s_get hx hb hw inM hown hK hH 12 (by decide) (hw _ (gwd_6 (List.mem_of_getElem? (i := 4) rfl))) (by first | exact ⟨rfl, rfl⟩ | exact ⟨by assumption, rfl⟩ | exact ⟨by assumption, by assumption⟩ | exact ⟨by omega, rfl⟩ | exact ⟨by omega, by omega⟩ | exact ⟨by decide, rfl⟩) rfl rfl rfl rfl dM_step_352 ?_
                        refine lv_iload_n hx hb dM_step_355 rfl (lv_at hl 9 rfl) ?_
                        refine lv_iload hx hb dM_step_356 (lv_at hl 4 rfl) ?_
                        refine lv_bipush (v := 9) hx hb dM_step_358 (by decide) ?_
                        refine lv_icmp_ne hx hb dM_step_360 rfl (fun h_37 => ?_) (fun h_37 => ?_)
                        · skip
                          refine lv_iconst (v := 0) hx hb dM_step_374 (by decide) ?_
                          refine m_iast hx hb hK hH hS (by first | exact ⟨rfl, rfl⟩ | exact ⟨by assumption, rfl⟩ | exact ⟨by assumption, by assumption⟩ | exact ⟨by omega, rfl⟩ | exact ⟨by omega, by omega⟩ | exact ⟨by decide, rfl⟩) rfl _ (by first | rfl | assumption) (show _ < 14 from by omega) (by decide) rfl dM_step_375 (fun H locs hH hS => ?_)
                          refine lv_iload hx hb dM_step_376 (lv_at hl 4 rfl) ?_
                          refine lv_bipush (v := 8) hx hb dM_step_378 (by decide) ?_
                          refine lv_icmp_ne hx hb dM_step_380 rfl (fun h_38 => ?_) (fun h_38 => ?_)
                          · skip
                            refine lv_iload hx hb dM_step_387 (lv_at hl 4 rfl) ?_
                            refine lv_bipush (v := 9) hx hb dM_step_389 (by decide) ?_
                            refine lv_icmp_ne hx hb dM_step_391 rfl (fun h_39 => ?_) (fun h_39 => ?_)
                            · skip
                              refine lv_iload hx hb dM_step_398 (lv_at hl 4 rfl) ?_
                              refine lv_if_ne hx hb dM_step_400 rfl (fun h_40 => ?_) (fun h_40 => ?_)
                              · skip
                                refine lv_iconst (v := 0) hx hb dM_step_407 (by decide) ?_
                                exact r_i hx hb hr hlk hK hH hS dM_step_408 (by rw [hs]; simp [mPerf, eo, hA, hB, mEnd, iu_at, h_1])
                              · exact absurd h_40 (by decide)
                            · exact absurd h_39 (by decide)
                          · exact absurd h_38 (by decide)
                        · exact absurd h_37 (by decide)
                      · exact absurd h_36 (by decide)
                  · exact absurd h_34 (by decide)
                · exact absurd h_33 (by decide)
              · exact absurd h_32 (by decide)
          · exact absurd h_30 (by decide)
      · exact absurd h_28 (by decide)
    · have eo : w &&& 15 = 3 := eo
      obtain ⟨t2, ht2, et2⟩ := and255 (J (12, 10, 0) (4 * q + b) + w >>> ((8 : Int32) &&& 31))
      have hT2 : ix (nI t2) = t2 := ix_nI (by omega)
      refine lv_iload hx hb dM_step_74 (lv_at hl 3 rfl) ?_
      refine lv_bipush (v := 10) hx hb dM_step_76 (by decide) ?_
      refine lv_icmp_le hx hb dM_step_78 rfl (fun h_41 => ?_) (fun h_41 => ?_)
      · skip
        refine lv_aload_n hx hb dM_step_83 rfl (lv_at hl 7 rfl) ?_
        refine s_get hx hb hw inM hown hK hH 11 (by decide) (hw _ (gwd_6 (List.mem_of_getElem? (i := 3) rfl))) (by first | exact ⟨rfl, rfl⟩ | exact ⟨by assumption, rfl⟩ | exact ⟨by assumption, by assumption⟩ | exact ⟨by omega, rfl⟩ | exact ⟨by omega, by omega⟩ | exact ⟨by decide, rfl⟩) rfl rfl rfl rfl dM_step_84 ?_
        refine lv_iload_n hx hb dM_step_87 rfl (lv_at hl 8 rfl) ?_
        refine m_iald hx hb hK hH (by first | exact ⟨rfl, rfl⟩ | exact ⟨by assumption, rfl⟩ | exact ⟨by assumption, by assumption⟩ | exact ⟨by omega, rfl⟩ | exact ⟨by omega, by omega⟩ | exact ⟨by decide, rfl⟩) rfl _ (by first | rfl | assumption) (show _ < 14 from by omega) (by decide) dM_step_88 ?_
        refine lv_iconst (v := 1) hx hb dM_step_89 (by decide) ?_
        refine lv_iadd hx hb dM_step_90 ?_
        refine lv_sipush (v := 255) hx hb dM_step_91 (by decide) ?_
        refine lv_iand hx hb dM_step_94 ?_
        refine lv_istore hx hb dM_step_95 hl (by decide) rfl (fun ls hl => ?_)
        have hl : lv_has ls 11 [(9, .int _), (8, .int _), (7, .int _), (6, .int _), (5, .int _), (4, .int _), (3, .int _), (2, .int _), (0, .ref _), (1, .int _)] := hl
        refine lv_iload hx hb dM_step_97 (lv_at hl 4 rfl) ?_
        refine lv_iconst (v := 3) hx hb dM_step_99 (by decide) ?_
        refine lv_icmp_eq hx hb dM_step_100 rfl (fun h_42 => ?_) (fun h_42 => ?_)
        · skip
          refine lv_aload_n hx hb dM_step_109 rfl (lv_at hl 8 rfl) ?_
          refine lv_iload_n hx hb dM_step_110 rfl (lv_at hl 7 rfl) ?_
          refine lv_iload hx hb dM_step_111 (lv_at hl 2 rfl) ?_
          refine lv_iload hx hb dM_step_113 (lv_at hl 1 rfl) ?_
          refine lv_iadd hx hb dM_step_115 ?_
          refine lv_sipush (v := 255) hx hb dM_step_116 (by decide) ?_
          refine lv_iand hx hb dM_step_119 ?_
          rw [et2]
          refine s_ciE (va_runV (As := [.int _, .int _]) (rest := []) ⟨hx, hb, hml, hown, hw⟩ (c_M_word l  (by assumption)) (cwV 2 hw (gd_V (gwd_8 (List.mem_of_getElem? (i := 26) rfl)) (gwd_8 (List.mem_of_getElem? (i := 27) rfl)) (gwd_9 (List.mem_of_getElem? (i := 35) rfl)) (gwd_0 (List.mem_of_getElem? (i := 3) rfl)) (gwd_8 (List.mem_of_getElem? (i := 28) rfl))) rfl rfl rfl (by decide +kernel) ⟨Nat.le_of_ble_eq_true rfl, Nat.le_of_ble_eq_true rfl⟩) (gPre.V (n := (11, 0, 0)) hK hH (by first | exact ⟨rfl, rfl⟩ | exact ⟨by assumption, rfl⟩ | exact ⟨by assumption, by assumption⟩ | exact ⟨by omega, rfl⟩ | exact ⟨by omega, by omega⟩ | exact ⟨by decide, rfl⟩) rfl rfl) rfl rfl hl.1 rfl (lv_room (Nat.le_of_ble_eq_true rfl)) dM_step_120 ⟨Nat.zero_le _, Nat.zero_le _⟩) hS (fun H locs hH hS => ?_)
          refine lv_istore hx hb dM_step_123 hl (by decide) rfl (fun ls hl => ?_)
          have hl : lv_has ls 11 [(10, .int _), (9, .int _), (8, .int _), (7, .int _), (6, .int _), (5, .int _), (4, .int _), (3, .int _), (2, .int _), (0, .ref _), (1, .int _)] := hl
          refine lv_iload hx hb dM_step_125 (lv_at hl 0 rfl) ?_
          refine lv_if_ge hx hb dM_step_127 rfl (fun h_43 => ?_) (fun h_43 => ?_)
          · skip
            obtain ⟨jw2, hjw2, ew2, est2⟩ := mWord_nn (Int32.not_lt.mpr h_43)
            rw [est2] at hH
            refine lv_iload hx hb dM_step_132 (lv_at hl 5 rfl) ?_
            refine lv_iconst (v := 3) hx hb dM_step_134 (by decide) ?_
            refine lv_icmp_ne hx hb dM_step_135 rfl (fun h_44 => ?_) (fun h_44 => ?_)
            · exact absurd h_44 (by decide)
            · skip
              refine lv_aload_n hx hb dM_step_138 rfl (lv_at hl 9 rfl) ?_
              refine s_get hx hb hw inM hown hK hH 10 (by decide) (hw _ (gwd_6 (List.mem_of_getElem? (i := 2) rfl))) (by first | exact ⟨rfl, rfl⟩ | exact ⟨by assumption, rfl⟩ | exact ⟨by assumption, by assumption⟩ | exact ⟨by omega, rfl⟩ | exact ⟨by omega, by omega⟩ | exact ⟨by decide, rfl⟩) rfl rfl rfl rfl dM_step_139 ?_
              refine lv_iload hx hb dM_step_142 (lv_at hl 4 rfl) ?_
              refine lv_aload_n hx hb dM_step_144 rfl (lv_at hl 9 rfl) ?_
              refine s_get hx hb hw inM hown hK hH 0 (by decide) (hw _ (gwd_5 (List.mem_of_getElem? (i := 40) rfl))) (by first | exact ⟨rfl, rfl⟩ | exact ⟨by assumption, rfl⟩ | exact ⟨by assumption, by assumption⟩ | exact ⟨by omega, rfl⟩ | exact ⟨by omega, by omega⟩ | exact ⟨by decide, rfl⟩) rfl rfl rfl rfl dM_step_145 ?_
              refine lv_iload hx hb dM_step_148 (lv_at hl 0 rfl) ?_
              refine m_iald hx hb hK hH (by first | exact ⟨rfl, rfl⟩ | exact ⟨by assumption, rfl⟩ | exact ⟨by assumption, by assumption⟩ | exact ⟨by omega, rfl⟩ | exact ⟨by omega, by omega⟩ | exact ⟨by decide, rfl⟩) rfl jw2 ew2 (show _ < 96 from by first | assumption | decide | omega) (by decide) dM_step_150 ?_
              refine m_iast hx hb hK hH hS (by first | exact ⟨rfl, rfl⟩ | exact ⟨by assumption, rfl⟩ | exact ⟨by assumption, by assumption⟩ | exact ⟨by omega, rfl⟩ | exact ⟨by omega, by omega⟩ | exact ⟨by decide, rfl⟩) rfl (4 * q + a) rfl (show _ < 56 from by omega) (by decide) rfl dM_step_151 (fun H locs hH hS => ?_)
              refine lv_goto hx hb dM_step_152 rfl ?_
              refine lv_goto hx hb dM_step_169 rfl ?_
              refine lv_aload_n hx hb dM_step_321 rfl (lv_at hl 9 rfl) ?_
              refine s_get hx hb hw inM hown hK hH 11 (by decide) (hw _ (gwd_6 (List.mem_of_getElem? (i := 3) rfl))) (by first | exact ⟨rfl, rfl⟩ | exact ⟨by assumption, rfl⟩ | exact ⟨by assumption, by assumption⟩ | exact ⟨by omega, rfl⟩ | exact ⟨by omega, by omega⟩ | exact ⟨by decide, rfl⟩) rfl rfl rfl rfl dM_step_322 ?_
              refine lv_iload_n hx hb dM_step_325 rfl (lv_at hl 10 rfl) ?_
              refine lv_iload hx hb dM_step_326 (lv_at hl 1 rfl) ?_
              refine m_iast hx hb hK hH hS (by first | exact ⟨rfl, rfl⟩ | exact ⟨by assumption, rfl⟩ | exact ⟨by assumption, by assumption⟩ | exact ⟨by omega, rfl⟩ | exact ⟨by omega, by omega⟩ | exact ⟨by decide, rfl⟩) rfl _ (by first | rfl | assumption) (show _ < 14 from by omega) (by decide) rfl dM_step_328 (fun H locs hH hS => ?_)
              refine lv_aload_n hx hb dM_step_329 rfl (lv_at hl 9 rfl) ?_
              refine lv_iload hx hb dM_step_330 (lv_at hl 5 rfl) ?_
              refine lv_bipush (v := 8) hx hb dM_step_332 (by decide) ?_
              refine lv_icmp_ne hx hb dM_step_334 rfl (fun h_45 => ?_) (fun h_45 => ?_)
              · skip
                refine lv_iconst (v := 0) hx hb dM_step_347 (by decide) ?_
                refine m_put hx hb hw inM tyM_ok nM hown hK hH hS 14 (by decide) (hw _ (gwd_6 (List.mem_of_getElem? (i := 6) rfl))) (by first | exact ⟨rfl, rfl⟩ | exact ⟨by assumption, rfl⟩ | exact ⟨by assumption, by assumption⟩ | exact ⟨by omega, rfl⟩ | exact ⟨by omega, by omega⟩ | exact ⟨by decide, rfl⟩) rfl rfl rfl rfl rfl rfl rfl (Nat.le_of_ble_eq_true rfl) rfl dM_step_348 (fun H locs hH hS => ?_)
                refine lv_aload_n hx hb dM_step_351 rfl (lv_at hl 9 rfl) ?_
                refine s_get hx hb hw inM hown hK hH 12 (by decide) (hw _ (gwd_6 (List.mem_of_getElem? (i := 4) rfl))) (by first | exact ⟨rfl, rfl⟩ | exact ⟨by assumption, rfl⟩ | exact ⟨by assumption, by assumption⟩ | exact ⟨by omega, rfl⟩ | exact ⟨by omega, by omega⟩ | exact ⟨by decide, rfl⟩) rfl rfl rfl rfl dM_step_352 ?_
                refine lv_iload_n hx hb dM_step_355 rfl (lv_at hl 10 rfl) ?_
                refine lv_iload hx hb dM_step_356 (lv_at hl 5 rfl) ?_
                refine lv_bipush (v := 9) hx hb dM_step_358 (by decide) ?_
                refine lv_icmp_ne hx hb dM_step_360 rfl (fun h_46 => ?_) (fun h_46 => ?_)
                · skip
                  refine lv_iconst (v := 0) hx hb dM_step_374 (by decide) ?_
                  refine m_iast hx hb hK hH hS (by first | exact ⟨rfl, rfl⟩ | exact ⟨by assumption, rfl⟩ | exact ⟨by assumption, by assumption⟩ | exact ⟨by omega, rfl⟩ | exact ⟨by omega, by omega⟩ | exact ⟨by decide, rfl⟩) rfl _ (by first | rfl | assumption) (show _ < 14 from by omega) (by decide) rfl dM_step_375 (fun H locs hH hS => ?_)
                  refine lv_iload hx hb dM_step_376 (lv_at hl 5 rfl) ?_
                  refine lv_bipush (v := 8) hx hb dM_step_378 (by decide) ?_
                  refine lv_icmp_ne hx hb dM_step_380 rfl (fun h_47 => ?_) (fun h_47 => ?_)
                  · skip
                    refine lv_iload hx hb dM_step_387 (lv_at hl 5 rfl) ?_
                    refine lv_bipush (v := 9) hx hb dM_step_389 (by decide) ?_
                    refine lv_icmp_ne hx hb dM_step_391 rfl (fun h_48 => ?_) (fun h_48 => ?_)
                    · skip
                      refine lv_iload hx hb dM_step_398 (lv_at hl 5 rfl) ?_
                      refine lv_if_ne hx hb dM_step_400 rfl (fun h_49 => ?_) (fun h_49 => ?_)
                      · skip
                        refine lv_iconst (v := 0) hx hb dM_step_407 (by decide) ?_
                        exact r_i hx hb hr hlk hK hH hS dM_step_408 (by rw [hs]; simp only [mPerf, eo]; simp [hA, hB, et2, hT2, ew2, ix_nI (show jw2 < 2 ^ 31 by omega), nI_pos (show jw2 < 2 ^ 31 by omega), mEnd, iu_at, eo])
                      · exact absurd h_49 (by decide)
                    · exact absurd h_48 (by decide)
                  · exact absurd h_47 (by decide)
                · exact absurd h_46 (by decide)
              · exact absurd h_45 (by decide)
          · skip
            refine lv_iconst (v := 1) hx hb dM_step_130 (by decide) ?_
            exact r_i hx hb hr hlk hK hH hS dM_step_131 (by rw [hs]; simp only [mPerf, eo]; simp [hA, hB, et2, hT2, Int32.not_le.mp h_43])
        · exact absurd h_42 (by decide)
      · exact absurd h_41 (by decide)
    · have eo : w &&& 15 = 4 := eo
      obtain ⟨t2, ht2, et2⟩ := and255 (J (12, 10, 0) (4 * q + b) + w >>> ((8 : Int32) &&& 31))
      have hT2 : ix (nI t2) = t2 := ix_nI (by omega)
      refine lv_iload hx hb dM_step_74 (lv_at hl 3 rfl) ?_
      refine lv_bipush (v := 10) hx hb dM_step_76 (by decide) ?_
      refine lv_icmp_le hx hb dM_step_78 rfl (fun h_50 => ?_) (fun h_50 => ?_)
      · skip
        refine lv_aload_n hx hb dM_step_83 rfl (lv_at hl 7 rfl) ?_
        refine s_get hx hb hw inM hown hK hH 11 (by decide) (hw _ (gwd_6 (List.mem_of_getElem? (i := 3) rfl))) (by first | exact ⟨rfl, rfl⟩ | exact ⟨by assumption, rfl⟩ | exact ⟨by assumption, by assumption⟩ | exact ⟨by omega, rfl⟩ | exact ⟨by omega, by omega⟩ | exact ⟨by decide, rfl⟩) rfl rfl rfl rfl dM_step_84 ?_
        refine lv_iload_n hx hb dM_step_87 rfl (lv_at hl 8 rfl) ?_
        refine m_iald hx hb hK hH (by first | exact ⟨rfl, rfl⟩ | exact ⟨by assumption, rfl⟩ | exact ⟨by assumption, by assumption⟩ | exact ⟨by omega, rfl⟩ | exact ⟨by omega, by omega⟩ | exact ⟨by decide, rfl⟩) rfl _ (by first | rfl | assumption) (show _ < 14 from by omega) (by decide) dM_step_88 ?_
        refine lv_iconst (v := 1) hx hb dM_step_89 (by decide) ?_
        refine lv_iadd hx hb dM_step_90 ?_
        refine lv_sipush (v := 255) hx hb dM_step_91 (by decide) ?_
        refine lv_iand hx hb dM_step_94 ?_
        refine lv_istore hx hb dM_step_95 hl (by decide) rfl (fun ls hl => ?_)
        have hl : lv_has ls 11 [(9, .int _), (8, .int _), (7, .int _), (6, .int _), (5, .int _), (4, .int _), (3, .int _), (2, .int _), (0, .ref _), (1, .int _)] := hl
        refine lv_iload hx hb dM_step_97 (lv_at hl 4 rfl) ?_
        refine lv_iconst (v := 3) hx hb dM_step_99 (by decide) ?_
        refine lv_icmp_eq hx hb dM_step_100 rfl (fun h_51 => ?_) (fun h_51 => ?_)
        · exact absurd h_51 (by decide)
        · skip
          refine lv_iload hx hb dM_step_103 (lv_at hl 4 rfl) ?_
          refine lv_iconst (v := 4) hx hb dM_step_105 (by decide) ?_
          refine lv_icmp_ne hx hb dM_step_106 rfl (fun h_52 => ?_) (fun h_52 => ?_)
          · exact absurd h_52 (by decide)
          · skip
            refine lv_aload_n hx hb dM_step_109 rfl (lv_at hl 8 rfl) ?_
            refine lv_iload_n hx hb dM_step_110 rfl (lv_at hl 7 rfl) ?_
            refine lv_iload hx hb dM_step_111 (lv_at hl 2 rfl) ?_
            refine lv_iload hx hb dM_step_113 (lv_at hl 1 rfl) ?_
            refine lv_iadd hx hb dM_step_115 ?_
            refine lv_sipush (v := 255) hx hb dM_step_116 (by decide) ?_
            refine lv_iand hx hb dM_step_119 ?_
            rw [et2]
            refine s_ciE (va_runV (As := [.int _, .int _]) (rest := []) ⟨hx, hb, hml, hown, hw⟩ (c_M_word l  (by assumption)) (cwV 2 hw (gd_V (gwd_8 (List.mem_of_getElem? (i := 26) rfl)) (gwd_8 (List.mem_of_getElem? (i := 27) rfl)) (gwd_9 (List.mem_of_getElem? (i := 35) rfl)) (gwd_0 (List.mem_of_getElem? (i := 3) rfl)) (gwd_8 (List.mem_of_getElem? (i := 28) rfl))) rfl rfl rfl (by decide +kernel) ⟨Nat.le_of_ble_eq_true rfl, Nat.le_of_ble_eq_true rfl⟩) (gPre.V (n := (11, 0, 0)) hK hH (by first | exact ⟨rfl, rfl⟩ | exact ⟨by assumption, rfl⟩ | exact ⟨by assumption, by assumption⟩ | exact ⟨by omega, rfl⟩ | exact ⟨by omega, by omega⟩ | exact ⟨by decide, rfl⟩) rfl rfl) rfl rfl hl.1 rfl (lv_room (Nat.le_of_ble_eq_true rfl)) dM_step_120 ⟨Nat.zero_le _, Nat.zero_le _⟩) hS (fun H locs hH hS => ?_)
            refine lv_istore hx hb dM_step_123 hl (by decide) rfl (fun ls hl => ?_)
            have hl : lv_has ls 11 [(10, .int _), (9, .int _), (8, .int _), (7, .int _), (6, .int _), (5, .int _), (4, .int _), (3, .int _), (2, .int _), (0, .ref _), (1, .int _)] := hl
            refine lv_iload hx hb dM_step_125 (lv_at hl 0 rfl) ?_
            refine lv_if_ge hx hb dM_step_127 rfl (fun h_53 => ?_) (fun h_53 => ?_)
            · skip
              obtain ⟨jw2, hjw2, ew2, est2⟩ := mWord_nn (Int32.not_lt.mpr h_53)
              rw [est2] at hH
              refine lv_iload hx hb dM_step_132 (lv_at hl 5 rfl) ?_
              refine lv_iconst (v := 3) hx hb dM_step_134 (by decide) ?_
              refine lv_icmp_ne hx hb dM_step_135 rfl (fun h_54 => ?_) (fun h_54 => ?_)
              · skip
                refine lv_aload_n hx hb dM_step_155 rfl (lv_at hl 9 rfl) ?_
                refine s_get hx hb hw inM hown hK hH 0 (by decide) (hw _ (gwd_5 (List.mem_of_getElem? (i := 40) rfl))) (by first | exact ⟨rfl, rfl⟩ | exact ⟨by assumption, rfl⟩ | exact ⟨by assumption, by assumption⟩ | exact ⟨by omega, rfl⟩ | exact ⟨by omega, by omega⟩ | exact ⟨by decide, rfl⟩) rfl rfl rfl rfl dM_step_156 ?_
                refine lv_iload hx hb dM_step_159 (lv_at hl 0 rfl) ?_
                refine lv_aload_n hx hb dM_step_161 rfl (lv_at hl 9 rfl) ?_
                refine s_get hx hb hw inM hown hK hH 10 (by decide) (hw _ (gwd_6 (List.mem_of_getElem? (i := 2) rfl))) (by first | exact ⟨rfl, rfl⟩ | exact ⟨by assumption, rfl⟩ | exact ⟨by assumption, by assumption⟩ | exact ⟨by omega, rfl⟩ | exact ⟨by omega, by omega⟩ | exact ⟨by decide, rfl⟩) rfl rfl rfl rfl dM_step_162 ?_
                refine lv_iload hx hb dM_step_165 (lv_at hl 4 rfl) ?_
                refine m_iald hx hb hK hH (by first | exact ⟨rfl, rfl⟩ | exact ⟨by assumption, rfl⟩ | exact ⟨by assumption, by assumption⟩ | exact ⟨by omega, rfl⟩ | exact ⟨by omega, by omega⟩ | exact ⟨by decide, rfl⟩) rfl (4 * q + a) rfl (show _ < 56 from by omega) (by decide) dM_step_167 ?_
                refine m_iast hx hb hK hH hS (by first | exact ⟨rfl, rfl⟩ | exact ⟨by assumption, rfl⟩ | exact ⟨by assumption, by assumption⟩ | exact ⟨by omega, rfl⟩ | exact ⟨by omega, by omega⟩ | exact ⟨by decide, rfl⟩) rfl jw2 ew2 (show _ < 96 from by first | assumption | decide | omega) (by decide) rfl dM_step_168 (fun H locs hH hS => ?_)
                refine lv_goto hx hb dM_step_169 rfl ?_
                refine lv_aload_n hx hb dM_step_321 rfl (lv_at hl 9 rfl) ?_
                refine s_get hx hb hw inM hown hK hH 11 (by decide) (hw _ (gwd_6 (List.mem_of_getElem? (i := 3) rfl))) (by first | exact ⟨rfl, rfl⟩ | exact ⟨by assumption, rfl⟩ | exact ⟨by assumption, by assumption⟩ | exact ⟨by omega, rfl⟩ | exact ⟨by omega, by omega⟩ | exact ⟨by decide, rfl⟩) rfl rfl rfl rfl dM_step_322 ?_
                refine lv_iload_n hx hb dM_step_325 rfl (lv_at hl 10 rfl) ?_
                refine lv_iload hx hb dM_step_326 (lv_at hl 1 rfl) ?_
                refine m_iast hx hb hK hH hS (by first | exact ⟨rfl, rfl⟩ | exact ⟨by assumption, rfl⟩ | exact ⟨by assumption, by assumption⟩ | exact ⟨by omega, rfl⟩ | exact ⟨by omega, by omega⟩ | exact ⟨by decide, rfl⟩) rfl _ (by first | rfl | assumption) (show _ < 14 from by omega) (by decide) rfl dM_step_328 (fun H locs hH hS => ?_)
                refine lv_aload_n hx hb dM_step_329 rfl (lv_at hl 9 rfl) ?_
                refine lv_iload hx hb dM_step_330 (lv_at hl 5 rfl) ?_
                refine lv_bipush (v := 8) hx hb dM_step_332 (by decide) ?_
                refine lv_icmp_ne hx hb dM_step_334 rfl (fun h_55 => ?_) (fun h_55 => ?_)
                · skip
                  refine lv_iconst (v := 0) hx hb dM_step_347 (by decide) ?_
                  refine m_put hx hb hw inM tyM_ok nM hown hK hH hS 14 (by decide) (hw _ (gwd_6 (List.mem_of_getElem? (i := 6) rfl))) (by first | exact ⟨rfl, rfl⟩ | exact ⟨by assumption, rfl⟩ | exact ⟨by assumption, by assumption⟩ | exact ⟨by omega, rfl⟩ | exact ⟨by omega, by omega⟩ | exact ⟨by decide, rfl⟩) rfl rfl rfl rfl rfl rfl rfl (Nat.le_of_ble_eq_true rfl) rfl dM_step_348 (fun H locs hH hS => ?_)
                  refine lv_aload_n hx hb dM_step_351 rfl (lv_at hl 9 rfl) ?_
                  refine s_get hx hb hw inM hown hK hH 12 (by decide) (hw _ (gwd_6 (List.mem_of_getElem? (i := 4) rfl))) (by first | exact ⟨rfl, rfl⟩ | exact ⟨by assumption, rfl⟩ | exact ⟨by assumption, by assumption⟩ | exact ⟨by omega, rfl⟩ | exact ⟨by omega, by omega⟩ | exact ⟨by decide, rfl⟩) rfl rfl rfl rfl dM_step_352 ?_
                  refine lv_iload_n hx hb dM_step_355 rfl (lv_at hl 10 rfl) ?_
                  refine lv_iload hx hb dM_step_356 (lv_at hl 5 rfl) ?_
                  refine lv_bipush (v := 9) hx hb dM_step_358 (by decide) ?_
                  refine lv_icmp_ne hx hb dM_step_360 rfl (fun h_56 => ?_) (fun h_56 => ?_)
                  · skip
                    refine lv_iconst (v := 0) hx hb dM_step_374 (by decide) ?_
                    refine m_iast hx hb hK hH hS (by first | exact ⟨rfl, rfl⟩ | exact ⟨by assumption, rfl⟩ | exact ⟨by assumption, by assumption⟩ | exact ⟨by omega, rfl⟩ | exact ⟨by omega, by omega⟩ | exact ⟨by decide, rfl⟩) rfl _ (by first | rfl | assumption) (show _ < 14 from by omega) (by decide) rfl dM_step_375 (fun H locs hH hS => ?_)
                    refine lv_iload hx hb dM_step_376 (lv_at hl 5 rfl) ?_
                    refine lv_bipush (v := 8) hx hb dM_step_378 (by decide) ?_
                    refine lv_icmp_ne hx hb dM_step_380 rfl (fun h_57 => ?_) (fun h_57 => ?_)
                    · skip
                      refine lv_iload hx hb dM_step_387 (lv_at hl 5 rfl) ?_
                      refine lv_bipush (v := 9) hx hb dM_step_389 (by decide) ?_
                      refine lv_icmp_ne hx hb dM_step_391 rfl (fun h_58 => ?_) (fun h_58 => ?_)
                      · skip
                        refine lv_iload hx hb dM_step_398 (lv_at hl 5 rfl) ?_
                        refine lv_if_ne hx hb dM_step_400 rfl (fun h_59 => ?_) (fun h_59 => ?_)
                        · skip
                          refine lv_iconst (v := 0) hx hb dM_step_407 (by decide) ?_
                          exact r_i hx hb hr hlk hK hH hS dM_step_408 (by rw [hs]; simp only [mPerf, eo]; simp [hA, hB, et2, hT2, ew2, ix_nI (show jw2 < 2 ^ 31 by omega), nI_pos (show jw2 < 2 ^ 31 by omega), mEnd, iu_at, eo])
                        · exact absurd h_59 (by decide)
                      · exact absurd h_58 (by decide)
                    · exact absurd h_57 (by decide)
                  · exact absurd h_56 (by decide)
                · exact absurd h_55 (by decide)
              · exact absurd h_54 (by decide)
            · skip
              refine lv_iconst (v := 1) hx hb dM_step_130 (by decide) ?_
              exact r_i hx hb hr hlk hK hH hS dM_step_131 (by rw [hs]; simp only [mPerf, eo]; simp [hA, hB, et2, hT2, Int32.not_le.mp h_53])
      · exact absurd h_50 (by decide)
    · have eo : w &&& 15 = 5 := eo
      refine lv_iload hx hb dM_step_74 (lv_at hl 3 rfl) ?_
      refine lv_bipush (v := 10) hx hb dM_step_76 (by decide) ?_
      refine lv_icmp_le hx hb dM_step_78 rfl (fun h_60 => ?_) (fun h_60 => ?_)
      · skip
        refine lv_aload_n hx hb dM_step_83 rfl (lv_at hl 7 rfl) ?_
        refine s_get hx hb hw inM hown hK hH 11 (by decide) (hw _ (gwd_6 (List.mem_of_getElem? (i := 3) rfl))) (by first | exact ⟨rfl, rfl⟩ | exact ⟨by assumption, rfl⟩ | exact ⟨by assumption, by assumption⟩ | exact ⟨by omega, rfl⟩ | exact ⟨by omega, by omega⟩ | exact ⟨by decide, rfl⟩) rfl rfl rfl rfl dM_step_84 ?_
        refine lv_iload_n hx hb dM_step_87 rfl (lv_at hl 8 rfl) ?_
        refine m_iald hx hb hK hH (by first | exact ⟨rfl, rfl⟩ | exact ⟨by assumption, rfl⟩ | exact ⟨by assumption, by assumption⟩ | exact ⟨by omega, rfl⟩ | exact ⟨by omega, by omega⟩ | exact ⟨by decide, rfl⟩) rfl _ (by first | rfl | assumption) (show _ < 14 from by omega) (by decide) dM_step_88 ?_
        refine lv_iconst (v := 1) hx hb dM_step_89 (by decide) ?_
        refine lv_iadd hx hb dM_step_90 ?_
        refine lv_sipush (v := 255) hx hb dM_step_91 (by decide) ?_
        refine lv_iand hx hb dM_step_94 ?_
        refine lv_istore hx hb dM_step_95 hl (by decide) rfl (fun ls hl => ?_)
        have hl : lv_has ls 11 [(9, .int _), (8, .int _), (7, .int _), (6, .int _), (5, .int _), (4, .int _), (3, .int _), (2, .int _), (0, .ref _), (1, .int _)] := hl
        refine lv_iload hx hb dM_step_97 (lv_at hl 4 rfl) ?_
        refine lv_iconst (v := 3) hx hb dM_step_99 (by decide) ?_
        refine lv_icmp_eq hx hb dM_step_100 rfl (fun h_61 => ?_) (fun h_61 => ?_)
        · exact absurd h_61 (by decide)
        · skip
          refine lv_iload hx hb dM_step_103 (lv_at hl 4 rfl) ?_
          refine lv_iconst (v := 4) hx hb dM_step_105 (by decide) ?_
          refine lv_icmp_ne hx hb dM_step_106 rfl (fun h_62 => ?_) (fun h_62 => ?_)
          · skip
            refine lv_iload hx hb dM_step_172 (lv_at hl 4 rfl) ?_
            refine lv_bipush (v := 6) hx hb dM_step_174 (by decide) ?_
            refine lv_icmp_eq hx hb dM_step_176 rfl (fun h_63 => ?_) (fun h_63 => ?_)
            · exact absurd h_63 (by decide)
            · skip
              refine lv_iload hx hb dM_step_179 (lv_at hl 4 rfl) ?_
              refine lv_bipush (v := 7) hx hb dM_step_181 (by decide) ?_
              refine lv_icmp_ne hx hb dM_step_183 rfl (fun h_64 => ?_) (fun h_64 => ?_)
              · skip
                refine lv_iload hx hb dM_step_231 (lv_at hl 4 rfl) ?_
                refine lv_iconst (v := 5) hx hb dM_step_233 (by decide) ?_
                refine lv_icmp_ne hx hb dM_step_234 rfl (fun h_65 => ?_) (fun h_65 => ?_)
                · exact absurd h_65 (by decide)
                · skip
                  refine lv_aload_n hx hb dM_step_237 rfl (lv_at hl 8 rfl) ?_
                  refine s_get hx hb hw inM hown hK hH 10 (by decide) (hw _ (gwd_6 (List.mem_of_getElem? (i := 2) rfl))) (by first | exact ⟨rfl, rfl⟩ | exact ⟨by assumption, rfl⟩ | exact ⟨by assumption, by assumption⟩ | exact ⟨by omega, rfl⟩ | exact ⟨by omega, by omega⟩ | exact ⟨by decide, rfl⟩) rfl rfl rfl rfl dM_step_238 ?_
                  refine lv_iload hx hb dM_step_241 (lv_at hl 3 rfl) ?_
                  refine m_iald hx hb hK hH (by first | exact ⟨rfl, rfl⟩ | exact ⟨by assumption, rfl⟩ | exact ⟨by assumption, by assumption⟩ | exact ⟨by omega, rfl⟩ | exact ⟨by omega, by omega⟩ | exact ⟨by decide, rfl⟩) rfl (4 * q + a) rfl (show _ < 56 from by omega) (by decide) dM_step_243 ?_
                  refine lv_if_eq hx hb dM_step_244 rfl (fun h_66 => ?_) (fun h_66 => ?_)
                  · skip
                    refine lv_iload hx hb dM_step_256 (lv_at hl 0 rfl) ?_
                    refine lv_istore hx hb dM_step_258 hl (by decide) rfl (fun ls hl => ?_)
                    have hl : lv_has ls 11 [(9, .int _), (8, .int _), (7, .int _), (6, .int _), (5, .int _), (4, .int _), (3, .int _), (2, .int _), (0, .ref _), (1, .int _)] := hl
                    refine lv_goto hx hb dM_step_260 rfl ?_
                    refine lv_aload_n hx hb dM_step_321 rfl (lv_at hl 8 rfl) ?_
                    refine s_get hx hb hw inM hown hK hH 11 (by decide) (hw _ (gwd_6 (List.mem_of_getElem? (i := 3) rfl))) (by first | exact ⟨rfl, rfl⟩ | exact ⟨by assumption, rfl⟩ | exact ⟨by assumption, by assumption⟩ | exact ⟨by omega, rfl⟩ | exact ⟨by omega, by omega⟩ | exact ⟨by decide, rfl⟩) rfl rfl rfl rfl dM_step_322 ?_
                    refine lv_iload_n hx hb dM_step_325 rfl (lv_at hl 9 rfl) ?_
                    refine lv_iload hx hb dM_step_326 (lv_at hl 0 rfl) ?_
                    refine m_iast hx hb hK hH hS (by first | exact ⟨rfl, rfl⟩ | exact ⟨by assumption, rfl⟩ | exact ⟨by assumption, by assumption⟩ | exact ⟨by omega, rfl⟩ | exact ⟨by omega, by omega⟩ | exact ⟨by decide, rfl⟩) rfl _ (by first | rfl | assumption) (show _ < 14 from by omega) (by decide) rfl dM_step_328 (fun H locs hH hS => ?_)
                    refine lv_aload_n hx hb dM_step_329 rfl (lv_at hl 8 rfl) ?_
                    refine lv_iload hx hb dM_step_330 (lv_at hl 4 rfl) ?_
                    refine lv_bipush (v := 8) hx hb dM_step_332 (by decide) ?_
                    refine lv_icmp_ne hx hb dM_step_334 rfl (fun h_67 => ?_) (fun h_67 => ?_)
                    · skip
                      refine lv_iconst (v := 0) hx hb dM_step_347 (by decide) ?_
                      refine m_put hx hb hw inM tyM_ok nM hown hK hH hS 14 (by decide) (hw _ (gwd_6 (List.mem_of_getElem? (i := 6) rfl))) (by first | exact ⟨rfl, rfl⟩ | exact ⟨by assumption, rfl⟩ | exact ⟨by assumption, by assumption⟩ | exact ⟨by omega, rfl⟩ | exact ⟨by omega, by omega⟩ | exact ⟨by decide, rfl⟩) rfl rfl rfl rfl rfl rfl rfl (Nat.le_of_ble_eq_true rfl) rfl dM_step_348 (fun H locs hH hS => ?_)
                      refine lv_aload_n hx hb dM_step_351 rfl (lv_at hl 8 rfl) ?_
                      refine s_get hx hb hw inM hown hK hH 12 (by decide) (hw _ (gwd_6 (List.mem_of_getElem? (i := 4) rfl))) (by first | exact ⟨rfl, rfl⟩ | exact ⟨by assumption, rfl⟩ | exact ⟨by assumption, by assumption⟩ | exact ⟨by omega, rfl⟩ | exact ⟨by omega, by omega⟩ | exact ⟨by decide, rfl⟩) rfl rfl rfl rfl dM_step_352 ?_
                      refine lv_iload_n hx hb dM_step_355 rfl (lv_at hl 9 rfl) ?_
                      refine lv_iload hx hb dM_step_356 (lv_at hl 4 rfl) ?_
                      refine lv_bipush (v := 9) hx hb dM_step_358 (by decide) ?_
                      refine lv_icmp_ne hx hb dM_step_360 rfl (fun h_68 => ?_) (fun h_68 => ?_)
                      · skip
                        refine lv_iconst (v := 0) hx hb dM_step_374 (by decide) ?_
                        refine m_iast hx hb hK hH hS (by first | exact ⟨rfl, rfl⟩ | exact ⟨by assumption, rfl⟩ | exact ⟨by assumption, by assumption⟩ | exact ⟨by omega, rfl⟩ | exact ⟨by omega, by omega⟩ | exact ⟨by decide, rfl⟩) rfl _ (by first | rfl | assumption) (show _ < 14 from by omega) (by decide) rfl dM_step_375 (fun H locs hH hS => ?_)
                        refine lv_iload hx hb dM_step_376 (lv_at hl 4 rfl) ?_
                        refine lv_bipush (v := 8) hx hb dM_step_378 (by decide) ?_
                        refine lv_icmp_ne hx hb dM_step_380 rfl (fun h_69 => ?_) (fun h_69 => ?_)
                        · skip
                          refine lv_iload hx hb dM_step_387 (lv_at hl 4 rfl) ?_
                          refine lv_bipush (v := 9) hx hb dM_step_389 (by decide) ?_
                          refine lv_icmp_ne hx hb dM_step_391 rfl (fun h_70 => ?_) (fun h_70 => ?_)
                          · skip
                            refine lv_iload hx hb dM_step_398 (lv_at hl 4 rfl) ?_
                            refine lv_if_ne hx hb dM_step_400 rfl (fun h_71 => ?_) (fun h_71 => ?_)
                            · skip
                              refine lv_iconst (v := 0) hx hb dM_step_407 (by decide) ?_
                              exact r_i hx hb hr hlk hK hH hS dM_step_408 (by rw [hs]; simp [mPerf, eo, hA, hB, mEnd, iu_at, h_1, h_66])
                            · exact absurd h_71 (by decide)
                          · exact absurd h_70 (by decide)
                        · exact absurd h_69 (by decide)
                      · exact absurd h_68 (by decide)
                    · exact absurd h_67 (by decide)
                  · skip
                    refine lv_iload hx hb dM_step_247 (lv_at hl 1 rfl) ?_
                    refine lv_sipush (v := 255) hx hb dM_step_249 (by decide) ?_
                    refine lv_iand hx hb dM_step_252 ?_
                    refine lv_goto hx hb dM_step_253 rfl ?_
                    refine lv_istore hx hb dM_step_258 hl (by decide) rfl (fun ls hl => ?_)
                    have hl : lv_has ls 11 [(9, .int _), (8, .int _), (7, .int _), (6, .int _), (5, .int _), (4, .int _), (3, .int _), (2, .int _), (0, .ref _), (1, .int _)] := hl
                    refine lv_goto hx hb dM_step_260 rfl ?_
                    refine lv_aload_n hx hb dM_step_321 rfl (lv_at hl 8 rfl) ?_
                    refine s_get hx hb hw inM hown hK hH 11 (by decide) (hw _ (gwd_6 (List.mem_of_getElem? (i := 3) rfl))) (by first | exact ⟨rfl, rfl⟩ | exact ⟨by assumption, rfl⟩ | exact ⟨by assumption, by assumption⟩ | exact ⟨by omega, rfl⟩ | exact ⟨by omega, by omega⟩ | exact ⟨by decide, rfl⟩) rfl rfl rfl rfl dM_step_322 ?_
                    refine lv_iload_n hx hb dM_step_325 rfl (lv_at hl 9 rfl) ?_
                    refine lv_iload hx hb dM_step_326 (lv_at hl 0 rfl) ?_
                    refine m_iast hx hb hK hH hS (by first | exact ⟨rfl, rfl⟩ | exact ⟨by assumption, rfl⟩ | exact ⟨by assumption, by assumption⟩ | exact ⟨by omega, rfl⟩ | exact ⟨by omega, by omega⟩ | exact ⟨by decide, rfl⟩) rfl _ (by first | rfl | assumption) (show _ < 14 from by omega) (by decide) rfl dM_step_328 (fun H locs hH hS => ?_)
                    refine lv_aload_n hx hb dM_step_329 rfl (lv_at hl 8 rfl) ?_
                    refine lv_iload hx hb dM_step_330 (lv_at hl 4 rfl) ?_
                    refine lv_bipush (v := 8) hx hb dM_step_332 (by decide) ?_
                    refine lv_icmp_ne hx hb dM_step_334 rfl (fun h_72 => ?_) (fun h_72 => ?_)
                    · skip
                      refine lv_iconst (v := 0) hx hb dM_step_347 (by decide) ?_
                      refine m_put hx hb hw inM tyM_ok nM hown hK hH hS 14 (by decide) (hw _ (gwd_6 (List.mem_of_getElem? (i := 6) rfl))) (by first | exact ⟨rfl, rfl⟩ | exact ⟨by assumption, rfl⟩ | exact ⟨by assumption, by assumption⟩ | exact ⟨by omega, rfl⟩ | exact ⟨by omega, by omega⟩ | exact ⟨by decide, rfl⟩) rfl rfl rfl rfl rfl rfl rfl (Nat.le_of_ble_eq_true rfl) rfl dM_step_348 (fun H locs hH hS => ?_)
                      refine lv_aload_n hx hb dM_step_351 rfl (lv_at hl 8 rfl) ?_
                      refine s_get hx hb hw inM hown hK hH 12 (by decide) (hw _ (gwd_6 (List.mem_of_getElem? (i := 4) rfl))) (by first | exact ⟨rfl, rfl⟩ | exact ⟨by assumption, rfl⟩ | exact ⟨by assumption, by assumption⟩ | exact ⟨by omega, rfl⟩ | exact ⟨by omega, by omega⟩ | exact ⟨by decide, rfl⟩) rfl rfl rfl rfl dM_step_352 ?_
                      refine lv_iload_n hx hb dM_step_355 rfl (lv_at hl 9 rfl) ?_
                      refine lv_iload hx hb dM_step_356 (lv_at hl 4 rfl) ?_
                      refine lv_bipush (v := 9) hx hb dM_step_358 (by decide) ?_
                      refine lv_icmp_ne hx hb dM_step_360 rfl (fun h_73 => ?_) (fun h_73 => ?_)
                      · skip
                        refine lv_iconst (v := 0) hx hb dM_step_374 (by decide) ?_
                        refine m_iast hx hb hK hH hS (by first | exact ⟨rfl, rfl⟩ | exact ⟨by assumption, rfl⟩ | exact ⟨by assumption, by assumption⟩ | exact ⟨by omega, rfl⟩ | exact ⟨by omega, by omega⟩ | exact ⟨by decide, rfl⟩) rfl _ (by first | rfl | assumption) (show _ < 14 from by omega) (by decide) rfl dM_step_375 (fun H locs hH hS => ?_)
                        refine lv_iload hx hb dM_step_376 (lv_at hl 4 rfl) ?_
                        refine lv_bipush (v := 8) hx hb dM_step_378 (by decide) ?_
                        refine lv_icmp_ne hx hb dM_step_380 rfl (fun h_74 => ?_) (fun h_74 => ?_)
                        · skip
                          refine lv_iload hx hb dM_step_387 (lv_at hl 4 rfl) ?_
                          refine lv_bipush (v := 9) hx hb dM_step_389 (by decide) ?_
                          refine lv_icmp_ne hx hb dM_step_391 rfl (fun h_75 => ?_) (fun h_75 => ?_)
                          · skip
                            refine lv_iload hx hb dM_step_398 (lv_at hl 4 rfl) ?_
                            refine lv_if_ne hx hb dM_step_400 rfl (fun h_76 => ?_) (fun h_76 => ?_)
                            · skip
                              refine lv_iconst (v := 0) hx hb dM_step_407 (by decide) ?_
                              exact r_i hx hb hr hlk hK hH hS dM_step_408 (by rw [hs]; simp [mPerf, eo, hA, hB, mEnd, iu_at, h_1, h_66])
                            · exact absurd h_76 (by decide)
                          · exact absurd h_75 (by decide)
                        · exact absurd h_74 (by decide)
                      · exact absurd h_73 (by decide)
                    · exact absurd h_72 (by decide)
              · exact absurd h_64 (by decide)
          · exact absurd h_62 (by decide)
      · exact absurd h_60 (by decide)
    · have eo : w &&& 15 = 6 := eo
      obtain ⟨t2, ht2, et2⟩ := pk_andE (m := 63) (J (12, 10, 0) (4 * q + a)) 6 (by decide)
      have ht2 : t2 < 64 := ht2
      have hT2 : ix (nI t2) = t2 := ix_nI (by omega)
      refine lv_iload hx hb dM_step_74 (lv_at hl 3 rfl) ?_
      refine lv_bipush (v := 10) hx hb dM_step_76 (by decide) ?_
      refine lv_icmp_le hx hb dM_step_78 rfl (fun h_77 => ?_) (fun h_77 => ?_)
      · skip
        refine lv_aload_n hx hb dM_step_83 rfl (lv_at hl 7 rfl) ?_
        refine s_get hx hb hw inM hown hK hH 11 (by decide) (hw _ (gwd_6 (List.mem_of_getElem? (i := 3) rfl))) (by first | exact ⟨rfl, rfl⟩ | exact ⟨by assumption, rfl⟩ | exact ⟨by assumption, by assumption⟩ | exact ⟨by omega, rfl⟩ | exact ⟨by omega, by omega⟩ | exact ⟨by decide, rfl⟩) rfl rfl rfl rfl dM_step_84 ?_
        refine lv_iload_n hx hb dM_step_87 rfl (lv_at hl 8 rfl) ?_
        refine m_iald hx hb hK hH (by first | exact ⟨rfl, rfl⟩ | exact ⟨by assumption, rfl⟩ | exact ⟨by assumption, by assumption⟩ | exact ⟨by omega, rfl⟩ | exact ⟨by omega, by omega⟩ | exact ⟨by decide, rfl⟩) rfl _ (by first | rfl | assumption) (show _ < 14 from by omega) (by decide) dM_step_88 ?_
        refine lv_iconst (v := 1) hx hb dM_step_89 (by decide) ?_
        refine lv_iadd hx hb dM_step_90 ?_
        refine lv_sipush (v := 255) hx hb dM_step_91 (by decide) ?_
        refine lv_iand hx hb dM_step_94 ?_
        refine lv_istore hx hb dM_step_95 hl (by decide) rfl (fun ls hl => ?_)
        have hl : lv_has ls 11 [(9, .int _), (8, .int _), (7, .int _), (6, .int _), (5, .int _), (4, .int _), (3, .int _), (2, .int _), (0, .ref _), (1, .int _)] := hl
        refine lv_iload hx hb dM_step_97 (lv_at hl 4 rfl) ?_
        refine lv_iconst (v := 3) hx hb dM_step_99 (by decide) ?_
        refine lv_icmp_eq hx hb dM_step_100 rfl (fun h_78 => ?_) (fun h_78 => ?_)
        · exact absurd h_78 (by decide)
        · skip
          refine lv_iload hx hb dM_step_103 (lv_at hl 4 rfl) ?_
          refine lv_iconst (v := 4) hx hb dM_step_105 (by decide) ?_
          refine lv_icmp_ne hx hb dM_step_106 rfl (fun h_79 => ?_) (fun h_79 => ?_)
          · skip
            refine lv_iload hx hb dM_step_172 (lv_at hl 4 rfl) ?_
            refine lv_bipush (v := 6) hx hb dM_step_174 (by decide) ?_
            refine lv_icmp_eq hx hb dM_step_176 rfl (fun h_80 => ?_) (fun h_80 => ?_)
            · skip
              refine lv_aload_n hx hb dM_step_186 rfl (lv_at hl 8 rfl) ?_
              refine s_get hx hb hw inM hown hK hH 10 (by decide) (hw _ (gwd_6 (List.mem_of_getElem? (i := 2) rfl))) (by first | exact ⟨rfl, rfl⟩ | exact ⟨by assumption, rfl⟩ | exact ⟨by assumption, by assumption⟩ | exact ⟨by omega, rfl⟩ | exact ⟨by omega, by omega⟩ | exact ⟨by decide, rfl⟩) rfl rfl rfl rfl dM_step_187 ?_
              refine lv_iload hx hb dM_step_190 (lv_at hl 3 rfl) ?_
              refine lv_aload_n hx hb dM_step_192 rfl (lv_at hl 8 rfl) ?_
              refine lv_iload_n hx hb dM_step_193 rfl (lv_at hl 7 rfl) ?_
              refine lv_aload_n hx hb dM_step_194 rfl (lv_at hl 8 rfl) ?_
              refine s_get hx hb hw inM hown hK hH 10 (by decide) (hw _ (gwd_6 (List.mem_of_getElem? (i := 2) rfl))) (by first | exact ⟨rfl, rfl⟩ | exact ⟨by assumption, rfl⟩ | exact ⟨by assumption, by assumption⟩ | exact ⟨by omega, rfl⟩ | exact ⟨by omega, by omega⟩ | exact ⟨by decide, rfl⟩) rfl rfl rfl rfl dM_step_195 ?_
              refine lv_iload hx hb dM_step_198 (lv_at hl 3 rfl) ?_
              refine m_iald hx hb hK hH (by first | exact ⟨rfl, rfl⟩ | exact ⟨by assumption, rfl⟩ | exact ⟨by assumption, by assumption⟩ | exact ⟨by omega, rfl⟩ | exact ⟨by omega, by omega⟩ | exact ⟨by decide, rfl⟩) rfl (4 * q + a) rfl (show _ < 56 from by omega) (by decide) dM_step_200 ?_
              refine lv_bipush (v := 63) hx hb dM_step_201 (by decide) ?_
              refine lv_iand hx hb dM_step_203 ?_
              rw [et2]
              refine lv_iload hx hb dM_step_204 (lv_at hl 4 rfl) ?_
              refine lv_bipush (v := 6) hx hb dM_step_206 (by decide) ?_
              refine lv_icmp_ne hx hb dM_step_208 rfl (fun h_81 => ?_) (fun h_81 => ?_)
              · exact absurd h_81 (by decide)
              · skip
                refine lv_iconst (v := 1) hx hb dM_step_211 (by decide) ?_
                refine lv_goto hx hb dM_step_212 rfl ?_
                refine s_ciE (va_runV (As := [.int _, .int _, .int _]) (rest := [.int _, .ref _]) ⟨hx, hb, hml, hown, hw⟩ (c_M_turn l  (by first | exact Or.inl rfl | exact Or.inr rfl | exact bz_01 _ | assumption)) (cwV 3 hw (gd_V (gwd_8 (List.mem_of_getElem? (i := 29) rfl)) (gwd_8 (List.mem_of_getElem? (i := 30) rfl)) (gwd_9 (List.mem_of_getElem? (i := 36) rfl)) (gwd_0 (List.mem_of_getElem? (i := 3) rfl)) (gwd_8 (List.mem_of_getElem? (i := 31) rfl))) rfl rfl rfl (by decide +kernel) ⟨Nat.le_of_ble_eq_true rfl, Nat.le_of_ble_eq_true rfl⟩) (gPre.V (n := (11, 0, 0)) hK hH (by first | exact ⟨rfl, rfl⟩ | exact ⟨by assumption, rfl⟩ | exact ⟨by assumption, by assumption⟩ | exact ⟨by omega, rfl⟩ | exact ⟨by omega, by omega⟩ | exact ⟨by decide, rfl⟩) rfl rfl) rfl rfl hl.1 rfl (lv_room (Nat.le_of_ble_eq_true rfl)) dM_step_216 ⟨Nat.zero_le _, Nat.zero_le _⟩) hS (fun H locs hH hS => ?_)
                refine lv_if_eq hx hb dM_step_219 rfl (fun h_82 => ?_) (fun h_82 => ?_)
                · skip
                  refine lv_iconst (v := 0) hx hb dM_step_226 (by decide) ?_
                  refine m_iast hx hb hK hH hS (by first | exact ⟨rfl, rfl⟩ | exact ⟨by assumption, rfl⟩ | exact ⟨by assumption, by assumption⟩ | exact ⟨by omega, rfl⟩ | exact ⟨by omega, by omega⟩ | exact ⟨by decide, rfl⟩) rfl (4 * q + a) rfl (show _ < 56 from by omega) (by decide) rfl dM_step_227 (fun H locs hH hS => ?_)
                  refine lv_goto hx hb dM_step_228 rfl ?_
                  refine lv_aload_n hx hb dM_step_321 rfl (lv_at hl 8 rfl) ?_
                  refine s_get hx hb hw inM hown hK hH 11 (by decide) (hw _ (gwd_6 (List.mem_of_getElem? (i := 3) rfl))) (by first | exact ⟨rfl, rfl⟩ | exact ⟨by assumption, rfl⟩ | exact ⟨by assumption, by assumption⟩ | exact ⟨by omega, rfl⟩ | exact ⟨by omega, by omega⟩ | exact ⟨by decide, rfl⟩) rfl rfl rfl rfl dM_step_322 ?_
                  refine lv_iload_n hx hb dM_step_325 rfl (lv_at hl 9 rfl) ?_
                  refine lv_iload hx hb dM_step_326 (lv_at hl 0 rfl) ?_
                  refine m_iast hx hb hK hH hS (by first | exact ⟨rfl, rfl⟩ | exact ⟨by assumption, rfl⟩ | exact ⟨by assumption, by assumption⟩ | exact ⟨by omega, rfl⟩ | exact ⟨by omega, by omega⟩ | exact ⟨by decide, rfl⟩) rfl _ (by first | rfl | assumption) (show _ < 14 from by omega) (by decide) rfl dM_step_328 (fun H locs hH hS => ?_)
                  refine lv_aload_n hx hb dM_step_329 rfl (lv_at hl 8 rfl) ?_
                  refine lv_iload hx hb dM_step_330 (lv_at hl 4 rfl) ?_
                  refine lv_bipush (v := 8) hx hb dM_step_332 (by decide) ?_
                  refine lv_icmp_ne hx hb dM_step_334 rfl (fun h_83 => ?_) (fun h_83 => ?_)
                  · skip
                    refine lv_iconst (v := 0) hx hb dM_step_347 (by decide) ?_
                    refine m_put hx hb hw inM tyM_ok nM hown hK hH hS 14 (by decide) (hw _ (gwd_6 (List.mem_of_getElem? (i := 6) rfl))) (by first | exact ⟨rfl, rfl⟩ | exact ⟨by assumption, rfl⟩ | exact ⟨by assumption, by assumption⟩ | exact ⟨by omega, rfl⟩ | exact ⟨by omega, by omega⟩ | exact ⟨by decide, rfl⟩) rfl rfl rfl rfl rfl rfl rfl (Nat.le_of_ble_eq_true rfl) rfl dM_step_348 (fun H locs hH hS => ?_)
                    refine lv_aload_n hx hb dM_step_351 rfl (lv_at hl 8 rfl) ?_
                    refine s_get hx hb hw inM hown hK hH 12 (by decide) (hw _ (gwd_6 (List.mem_of_getElem? (i := 4) rfl))) (by first | exact ⟨rfl, rfl⟩ | exact ⟨by assumption, rfl⟩ | exact ⟨by assumption, by assumption⟩ | exact ⟨by omega, rfl⟩ | exact ⟨by omega, by omega⟩ | exact ⟨by decide, rfl⟩) rfl rfl rfl rfl dM_step_352 ?_
                    refine lv_iload_n hx hb dM_step_355 rfl (lv_at hl 9 rfl) ?_
                    refine lv_iload hx hb dM_step_356 (lv_at hl 4 rfl) ?_
                    refine lv_bipush (v := 9) hx hb dM_step_358 (by decide) ?_
                    refine lv_icmp_ne hx hb dM_step_360 rfl (fun h_84 => ?_) (fun h_84 => ?_)
                    · skip
                      refine lv_iconst (v := 0) hx hb dM_step_374 (by decide) ?_
                      refine m_iast hx hb hK hH hS (by first | exact ⟨rfl, rfl⟩ | exact ⟨by assumption, rfl⟩ | exact ⟨by assumption, by assumption⟩ | exact ⟨by omega, rfl⟩ | exact ⟨by omega, by omega⟩ | exact ⟨by decide, rfl⟩) rfl _ (by first | rfl | assumption) (show _ < 14 from by omega) (by decide) rfl dM_step_375 (fun H locs hH hS => ?_)
                      refine lv_iload hx hb dM_step_376 (lv_at hl 4 rfl) ?_
                      refine lv_bipush (v := 8) hx hb dM_step_378 (by decide) ?_
                      refine lv_icmp_ne hx hb dM_step_380 rfl (fun h_85 => ?_) (fun h_85 => ?_)
                      · skip
                        refine lv_iload hx hb dM_step_387 (lv_at hl 4 rfl) ?_
                        refine lv_bipush (v := 9) hx hb dM_step_389 (by decide) ?_
                        refine lv_icmp_ne hx hb dM_step_391 rfl (fun h_86 => ?_) (fun h_86 => ?_)
                        · skip
                          refine lv_iload hx hb dM_step_398 (lv_at hl 4 rfl) ?_
                          refine lv_if_ne hx hb dM_step_400 rfl (fun h_87 => ?_) (fun h_87 => ?_)
                          · skip
                            refine lv_iconst (v := 0) hx hb dM_step_407 (by decide) ?_
                            exact r_i hx hb hr hlk hK hH hS dM_step_408 (by rw [hs]; simp [mPerf, eo, hA, hB, et2, hT2, mEnd, iu_at, bz, h_1, h_82])
                          · exact absurd h_87 (by decide)
                        · exact absurd h_86 (by decide)
                      · exact absurd h_85 (by decide)
                    · exact absurd h_84 (by decide)
                  · exact absurd h_83 (by decide)
                · skip
                  have h_82 := mTurn_01.resolve_left h_82
                  refine lv_iconst (v := 1) hx hb dM_step_222 (by decide) ?_
                  refine lv_goto hx hb dM_step_223 rfl ?_
                  refine m_iast hx hb hK hH hS (by first | exact ⟨rfl, rfl⟩ | exact ⟨by assumption, rfl⟩ | exact ⟨by assumption, by assumption⟩ | exact ⟨by omega, rfl⟩ | exact ⟨by omega, by omega⟩ | exact ⟨by decide, rfl⟩) rfl (4 * q + a) rfl (show _ < 56 from by omega) (by decide) rfl dM_step_227 (fun H locs hH hS => ?_)
                  refine lv_goto hx hb dM_step_228 rfl ?_
                  refine lv_aload_n hx hb dM_step_321 rfl (lv_at hl 8 rfl) ?_
                  refine s_get hx hb hw inM hown hK hH 11 (by decide) (hw _ (gwd_6 (List.mem_of_getElem? (i := 3) rfl))) (by first | exact ⟨rfl, rfl⟩ | exact ⟨by assumption, rfl⟩ | exact ⟨by assumption, by assumption⟩ | exact ⟨by omega, rfl⟩ | exact ⟨by omega, by omega⟩ | exact ⟨by decide, rfl⟩) rfl rfl rfl rfl dM_step_322 ?_
                  refine lv_iload_n hx hb dM_step_325 rfl (lv_at hl 9 rfl) ?_
                  refine lv_iload hx hb dM_step_326 (lv_at hl 0 rfl) ?_
                  refine m_iast hx hb hK hH hS (by first | exact ⟨rfl, rfl⟩ | exact ⟨by assumption, rfl⟩ | exact ⟨by assumption, by assumption⟩ | exact ⟨by omega, rfl⟩ | exact ⟨by omega, by omega⟩ | exact ⟨by decide, rfl⟩) rfl _ (by first | rfl | assumption) (show _ < 14 from by omega) (by decide) rfl dM_step_328 (fun H locs hH hS => ?_)
                  refine lv_aload_n hx hb dM_step_329 rfl (lv_at hl 8 rfl) ?_
                  refine lv_iload hx hb dM_step_330 (lv_at hl 4 rfl) ?_
                  refine lv_bipush (v := 8) hx hb dM_step_332 (by decide) ?_
                  refine lv_icmp_ne hx hb dM_step_334 rfl (fun h_88 => ?_) (fun h_88 => ?_)
                  · skip
                    refine lv_iconst (v := 0) hx hb dM_step_347 (by decide) ?_
                    refine m_put hx hb hw inM tyM_ok nM hown hK hH hS 14 (by decide) (hw _ (gwd_6 (List.mem_of_getElem? (i := 6) rfl))) (by first | exact ⟨rfl, rfl⟩ | exact ⟨by assumption, rfl⟩ | exact ⟨by assumption, by assumption⟩ | exact ⟨by omega, rfl⟩ | exact ⟨by omega, by omega⟩ | exact ⟨by decide, rfl⟩) rfl rfl rfl rfl rfl rfl rfl (Nat.le_of_ble_eq_true rfl) rfl dM_step_348 (fun H locs hH hS => ?_)
                    refine lv_aload_n hx hb dM_step_351 rfl (lv_at hl 8 rfl) ?_
                    refine s_get hx hb hw inM hown hK hH 12 (by decide) (hw _ (gwd_6 (List.mem_of_getElem? (i := 4) rfl))) (by first | exact ⟨rfl, rfl⟩ | exact ⟨by assumption, rfl⟩ | exact ⟨by assumption, by assumption⟩ | exact ⟨by omega, rfl⟩ | exact ⟨by omega, by omega⟩ | exact ⟨by decide, rfl⟩) rfl rfl rfl rfl dM_step_352 ?_
                    refine lv_iload_n hx hb dM_step_355 rfl (lv_at hl 9 rfl) ?_
                    refine lv_iload hx hb dM_step_356 (lv_at hl 4 rfl) ?_
                    refine lv_bipush (v := 9) hx hb dM_step_358 (by decide) ?_
                    refine lv_icmp_ne hx hb dM_step_360 rfl (fun h_89 => ?_) (fun h_89 => ?_)
                    · skip
                      refine lv_iconst (v := 0) hx hb dM_step_374 (by decide) ?_
                      refine m_iast hx hb hK hH hS (by first | exact ⟨rfl, rfl⟩ | exact ⟨by assumption, rfl⟩ | exact ⟨by assumption, by assumption⟩ | exact ⟨by omega, rfl⟩ | exact ⟨by omega, by omega⟩ | exact ⟨by decide, rfl⟩) rfl _ (by first | rfl | assumption) (show _ < 14 from by omega) (by decide) rfl dM_step_375 (fun H locs hH hS => ?_)
                      refine lv_iload hx hb dM_step_376 (lv_at hl 4 rfl) ?_
                      refine lv_bipush (v := 8) hx hb dM_step_378 (by decide) ?_
                      refine lv_icmp_ne hx hb dM_step_380 rfl (fun h_90 => ?_) (fun h_90 => ?_)
                      · skip
                        refine lv_iload hx hb dM_step_387 (lv_at hl 4 rfl) ?_
                        refine lv_bipush (v := 9) hx hb dM_step_389 (by decide) ?_
                        refine lv_icmp_ne hx hb dM_step_391 rfl (fun h_91 => ?_) (fun h_91 => ?_)
                        · skip
                          refine lv_iload hx hb dM_step_398 (lv_at hl 4 rfl) ?_
                          refine lv_if_ne hx hb dM_step_400 rfl (fun h_92 => ?_) (fun h_92 => ?_)
                          · skip
                            refine lv_iconst (v := 0) hx hb dM_step_407 (by decide) ?_
                            exact r_i hx hb hr hlk hK hH hS dM_step_408 (by rw [hs]; simp [mPerf, eo, hA, hB, et2, hT2, mEnd, iu_at, bz, h_1, h_82])
                          · exact absurd h_92 (by decide)
                        · exact absurd h_91 (by decide)
                      · exact absurd h_90 (by decide)
                    · exact absurd h_89 (by decide)
                  · exact absurd h_88 (by decide)
            · exact absurd h_80 (by decide)
          · exact absurd h_79 (by decide)
      · exact absurd h_77 (by decide)
    · have eo : w &&& 15 = 7 := eo
      obtain ⟨t2, ht2, et2⟩ := pk_andE (m := 63) (J (12, 10, 0) (4 * q + a)) 6 (by decide)
      have ht2 : t2 < 64 := ht2
      have hT2 : ix (nI t2) = t2 := ix_nI (by omega)
      refine lv_iload hx hb dM_step_74 (lv_at hl 3 rfl) ?_
      refine lv_bipush (v := 10) hx hb dM_step_76 (by decide) ?_
      refine lv_icmp_le hx hb dM_step_78 rfl (fun h_93 => ?_) (fun h_93 => ?_)
      · skip
        refine lv_aload_n hx hb dM_step_83 rfl (lv_at hl 7 rfl) ?_
        refine s_get hx hb hw inM hown hK hH 11 (by decide) (hw _ (gwd_6 (List.mem_of_getElem? (i := 3) rfl))) (by first | exact ⟨rfl, rfl⟩ | exact ⟨by assumption, rfl⟩ | exact ⟨by assumption, by assumption⟩ | exact ⟨by omega, rfl⟩ | exact ⟨by omega, by omega⟩ | exact ⟨by decide, rfl⟩) rfl rfl rfl rfl dM_step_84 ?_
        refine lv_iload_n hx hb dM_step_87 rfl (lv_at hl 8 rfl) ?_
        refine m_iald hx hb hK hH (by first | exact ⟨rfl, rfl⟩ | exact ⟨by assumption, rfl⟩ | exact ⟨by assumption, by assumption⟩ | exact ⟨by omega, rfl⟩ | exact ⟨by omega, by omega⟩ | exact ⟨by decide, rfl⟩) rfl _ (by first | rfl | assumption) (show _ < 14 from by omega) (by decide) dM_step_88 ?_
        refine lv_iconst (v := 1) hx hb dM_step_89 (by decide) ?_
        refine lv_iadd hx hb dM_step_90 ?_
        refine lv_sipush (v := 255) hx hb dM_step_91 (by decide) ?_
        refine lv_iand hx hb dM_step_94 ?_
        refine lv_istore hx hb dM_step_95 hl (by decide) rfl (fun ls hl => ?_)
        have hl : lv_has ls 11 [(9, .int _), (8, .int _), (7, .int _), (6, .int _), (5, .int _), (4, .int _), (3, .int _), (2, .int _), (0, .ref _), (1, .int _)] := hl
        refine lv_iload hx hb dM_step_97 (lv_at hl 4 rfl) ?_
        refine lv_iconst (v := 3) hx hb dM_step_99 (by decide) ?_
        refine lv_icmp_eq hx hb dM_step_100 rfl (fun h_94 => ?_) (fun h_94 => ?_)
        · exact absurd h_94 (by decide)
        · skip
          refine lv_iload hx hb dM_step_103 (lv_at hl 4 rfl) ?_
          refine lv_iconst (v := 4) hx hb dM_step_105 (by decide) ?_
          refine lv_icmp_ne hx hb dM_step_106 rfl (fun h_95 => ?_) (fun h_95 => ?_)
          · skip
            refine lv_iload hx hb dM_step_172 (lv_at hl 4 rfl) ?_
            refine lv_bipush (v := 6) hx hb dM_step_174 (by decide) ?_
            refine lv_icmp_eq hx hb dM_step_176 rfl (fun h_96 => ?_) (fun h_96 => ?_)
            · exact absurd h_96 (by decide)
            · skip
              refine lv_iload hx hb dM_step_179 (lv_at hl 4 rfl) ?_
              refine lv_bipush (v := 7) hx hb dM_step_181 (by decide) ?_
              refine lv_icmp_ne hx hb dM_step_183 rfl (fun h_97 => ?_) (fun h_97 => ?_)
              · exact absurd h_97 (by decide)
              · skip
                refine lv_aload_n hx hb dM_step_186 rfl (lv_at hl 8 rfl) ?_
                refine s_get hx hb hw inM hown hK hH 10 (by decide) (hw _ (gwd_6 (List.mem_of_getElem? (i := 2) rfl))) (by first | exact ⟨rfl, rfl⟩ | exact ⟨by assumption, rfl⟩ | exact ⟨by assumption, by assumption⟩ | exact ⟨by omega, rfl⟩ | exact ⟨by omega, by omega⟩ | exact ⟨by decide, rfl⟩) rfl rfl rfl rfl dM_step_187 ?_
                refine lv_iload hx hb dM_step_190 (lv_at hl 3 rfl) ?_
                refine lv_aload_n hx hb dM_step_192 rfl (lv_at hl 8 rfl) ?_
                refine lv_iload_n hx hb dM_step_193 rfl (lv_at hl 7 rfl) ?_
                refine lv_aload_n hx hb dM_step_194 rfl (lv_at hl 8 rfl) ?_
                refine s_get hx hb hw inM hown hK hH 10 (by decide) (hw _ (gwd_6 (List.mem_of_getElem? (i := 2) rfl))) (by first | exact ⟨rfl, rfl⟩ | exact ⟨by assumption, rfl⟩ | exact ⟨by assumption, by assumption⟩ | exact ⟨by omega, rfl⟩ | exact ⟨by omega, by omega⟩ | exact ⟨by decide, rfl⟩) rfl rfl rfl rfl dM_step_195 ?_
                refine lv_iload hx hb dM_step_198 (lv_at hl 3 rfl) ?_
                refine m_iald hx hb hK hH (by first | exact ⟨rfl, rfl⟩ | exact ⟨by assumption, rfl⟩ | exact ⟨by assumption, by assumption⟩ | exact ⟨by omega, rfl⟩ | exact ⟨by omega, by omega⟩ | exact ⟨by decide, rfl⟩) rfl (4 * q + a) rfl (show _ < 56 from by omega) (by decide) dM_step_200 ?_
                refine lv_bipush (v := 63) hx hb dM_step_201 (by decide) ?_
                refine lv_iand hx hb dM_step_203 ?_
                rw [et2]
                refine lv_iload hx hb dM_step_204 (lv_at hl 4 rfl) ?_
                refine lv_bipush (v := 6) hx hb dM_step_206 (by decide) ?_
                refine lv_icmp_ne hx hb dM_step_208 rfl (fun h_98 => ?_) (fun h_98 => ?_)
                · skip
                  refine lv_iconst (v := 0) hx hb dM_step_215 (by decide) ?_
                  refine s_ciE (va_runV (As := [.int _, .int _, .int _]) (rest := [.int _, .ref _]) ⟨hx, hb, hml, hown, hw⟩ (c_M_turn l  (by first | exact Or.inl rfl | exact Or.inr rfl | exact bz_01 _ | assumption)) (cwV 3 hw (gd_V (gwd_8 (List.mem_of_getElem? (i := 29) rfl)) (gwd_8 (List.mem_of_getElem? (i := 30) rfl)) (gwd_9 (List.mem_of_getElem? (i := 36) rfl)) (gwd_0 (List.mem_of_getElem? (i := 3) rfl)) (gwd_8 (List.mem_of_getElem? (i := 31) rfl))) rfl rfl rfl (by decide +kernel) ⟨Nat.le_of_ble_eq_true rfl, Nat.le_of_ble_eq_true rfl⟩) (gPre.V (n := (11, 0, 0)) hK hH (by first | exact ⟨rfl, rfl⟩ | exact ⟨by assumption, rfl⟩ | exact ⟨by assumption, by assumption⟩ | exact ⟨by omega, rfl⟩ | exact ⟨by omega, by omega⟩ | exact ⟨by decide, rfl⟩) rfl rfl) rfl rfl hl.1 rfl (lv_room (Nat.le_of_ble_eq_true rfl)) dM_step_216 ⟨Nat.zero_le _, Nat.zero_le _⟩) hS (fun H locs hH hS => ?_)
                  refine lv_if_eq hx hb dM_step_219 rfl (fun h_99 => ?_) (fun h_99 => ?_)
                  · skip
                    refine lv_iconst (v := 0) hx hb dM_step_226 (by decide) ?_
                    refine m_iast hx hb hK hH hS (by first | exact ⟨rfl, rfl⟩ | exact ⟨by assumption, rfl⟩ | exact ⟨by assumption, by assumption⟩ | exact ⟨by omega, rfl⟩ | exact ⟨by omega, by omega⟩ | exact ⟨by decide, rfl⟩) rfl (4 * q + a) rfl (show _ < 56 from by omega) (by decide) rfl dM_step_227 (fun H locs hH hS => ?_)
                    refine lv_goto hx hb dM_step_228 rfl ?_
                    refine lv_aload_n hx hb dM_step_321 rfl (lv_at hl 8 rfl) ?_
                    refine s_get hx hb hw inM hown hK hH 11 (by decide) (hw _ (gwd_6 (List.mem_of_getElem? (i := 3) rfl))) (by first | exact ⟨rfl, rfl⟩ | exact ⟨by assumption, rfl⟩ | exact ⟨by assumption, by assumption⟩ | exact ⟨by omega, rfl⟩ | exact ⟨by omega, by omega⟩ | exact ⟨by decide, rfl⟩) rfl rfl rfl rfl dM_step_322 ?_
                    refine lv_iload_n hx hb dM_step_325 rfl (lv_at hl 9 rfl) ?_
                    refine lv_iload hx hb dM_step_326 (lv_at hl 0 rfl) ?_
                    refine m_iast hx hb hK hH hS (by first | exact ⟨rfl, rfl⟩ | exact ⟨by assumption, rfl⟩ | exact ⟨by assumption, by assumption⟩ | exact ⟨by omega, rfl⟩ | exact ⟨by omega, by omega⟩ | exact ⟨by decide, rfl⟩) rfl _ (by first | rfl | assumption) (show _ < 14 from by omega) (by decide) rfl dM_step_328 (fun H locs hH hS => ?_)
                    refine lv_aload_n hx hb dM_step_329 rfl (lv_at hl 8 rfl) ?_
                    refine lv_iload hx hb dM_step_330 (lv_at hl 4 rfl) ?_
                    refine lv_bipush (v := 8) hx hb dM_step_332 (by decide) ?_
                    refine lv_icmp_ne hx hb dM_step_334 rfl (fun h_100 => ?_) (fun h_100 => ?_)
                    · skip
                      refine lv_iconst (v := 0) hx hb dM_step_347 (by decide) ?_
                      refine m_put hx hb hw inM tyM_ok nM hown hK hH hS 14 (by decide) (hw _ (gwd_6 (List.mem_of_getElem? (i := 6) rfl))) (by first | exact ⟨rfl, rfl⟩ | exact ⟨by assumption, rfl⟩ | exact ⟨by assumption, by assumption⟩ | exact ⟨by omega, rfl⟩ | exact ⟨by omega, by omega⟩ | exact ⟨by decide, rfl⟩) rfl rfl rfl rfl rfl rfl rfl (Nat.le_of_ble_eq_true rfl) rfl dM_step_348 (fun H locs hH hS => ?_)
                      refine lv_aload_n hx hb dM_step_351 rfl (lv_at hl 8 rfl) ?_
                      refine s_get hx hb hw inM hown hK hH 12 (by decide) (hw _ (gwd_6 (List.mem_of_getElem? (i := 4) rfl))) (by first | exact ⟨rfl, rfl⟩ | exact ⟨by assumption, rfl⟩ | exact ⟨by assumption, by assumption⟩ | exact ⟨by omega, rfl⟩ | exact ⟨by omega, by omega⟩ | exact ⟨by decide, rfl⟩) rfl rfl rfl rfl dM_step_352 ?_
                      refine lv_iload_n hx hb dM_step_355 rfl (lv_at hl 9 rfl) ?_
                      refine lv_iload hx hb dM_step_356 (lv_at hl 4 rfl) ?_
                      refine lv_bipush (v := 9) hx hb dM_step_358 (by decide) ?_
                      refine lv_icmp_ne hx hb dM_step_360 rfl (fun h_101 => ?_) (fun h_101 => ?_)
                      · skip
                        refine lv_iconst (v := 0) hx hb dM_step_374 (by decide) ?_
                        refine m_iast hx hb hK hH hS (by first | exact ⟨rfl, rfl⟩ | exact ⟨by assumption, rfl⟩ | exact ⟨by assumption, by assumption⟩ | exact ⟨by omega, rfl⟩ | exact ⟨by omega, by omega⟩ | exact ⟨by decide, rfl⟩) rfl _ (by first | rfl | assumption) (show _ < 14 from by omega) (by decide) rfl dM_step_375 (fun H locs hH hS => ?_)
                        refine lv_iload hx hb dM_step_376 (lv_at hl 4 rfl) ?_
                        refine lv_bipush (v := 8) hx hb dM_step_378 (by decide) ?_
                        refine lv_icmp_ne hx hb dM_step_380 rfl (fun h_102 => ?_) (fun h_102 => ?_)
                        · skip
                          refine lv_iload hx hb dM_step_387 (lv_at hl 4 rfl) ?_
                          refine lv_bipush (v := 9) hx hb dM_step_389 (by decide) ?_
                          refine lv_icmp_ne hx hb dM_step_391 rfl (fun h_103 => ?_) (fun h_103 => ?_)
                          · skip
                            refine lv_iload hx hb dM_step_398 (lv_at hl 4 rfl) ?_
                            refine lv_if_ne hx hb dM_step_400 rfl (fun h_104 => ?_) (fun h_104 => ?_)
                            · skip
                              refine lv_iconst (v := 0) hx hb dM_step_407 (by decide) ?_
                              exact r_i hx hb hr hlk hK hH hS dM_step_408 (by rw [hs]; simp [mPerf, eo, hA, hB, et2, hT2, mEnd, iu_at, bz, h_1, h_99])
                            · exact absurd h_104 (by decide)
                          · exact absurd h_103 (by decide)
                        · exact absurd h_102 (by decide)
                      · exact absurd h_101 (by decide)
                    · exact absurd h_100 (by decide)
                  · skip
                    have h_99 := mTurn_01.resolve_left h_99
                    refine lv_iconst (v := 1) hx hb dM_step_222 (by decide) ?_
                    refine lv_goto hx hb dM_step_223 rfl ?_
                    refine m_iast hx hb hK hH hS (by first | exact ⟨rfl, rfl⟩ | exact ⟨by assumption, rfl⟩ | exact ⟨by assumption, by assumption⟩ | exact ⟨by omega, rfl⟩ | exact ⟨by omega, by omega⟩ | exact ⟨by decide, rfl⟩) rfl (4 * q + a) rfl (show _ < 56 from by omega) (by decide) rfl dM_step_227 (fun H locs hH hS => ?_)
                    refine lv_goto hx hb dM_step_228 rfl ?_
                    refine lv_aload_n hx hb dM_step_321 rfl (lv_at hl 8 rfl) ?_
                    refine s_get hx hb hw inM hown hK hH 11 (by decide) (hw _ (gwd_6 (List.mem_of_getElem? (i := 3) rfl))) (by first | exact ⟨rfl, rfl⟩ | exact ⟨by assumption, rfl⟩ | exact ⟨by assumption, by assumption⟩ | exact ⟨by omega, rfl⟩ | exact ⟨by omega, by omega⟩ | exact ⟨by decide, rfl⟩) rfl rfl rfl rfl dM_step_322 ?_
                    refine lv_iload_n hx hb dM_step_325 rfl (lv_at hl 9 rfl) ?_
                    refine lv_iload hx hb dM_step_326 (lv_at hl 0 rfl) ?_
                    refine m_iast hx hb hK hH hS (by first | exact ⟨rfl, rfl⟩ | exact ⟨by assumption, rfl⟩ | exact ⟨by assumption, by assumption⟩ | exact ⟨by omega, rfl⟩ | exact ⟨by omega, by omega⟩ | exact ⟨by decide, rfl⟩) rfl _ (by first | rfl | assumption) (show _ < 14 from by omega) (by decide) rfl dM_step_328 (fun H locs hH hS => ?_)
                    refine lv_aload_n hx hb dM_step_329 rfl (lv_at hl 8 rfl) ?_
                    refine lv_iload hx hb dM_step_330 (lv_at hl 4 rfl) ?_
                    refine lv_bipush (v := 8) hx hb dM_step_332 (by decide) ?_
                    refine lv_icmp_ne hx hb dM_step_334 rfl (fun h_105 => ?_) (fun h_105 => ?_)
                    · skip
                      refine lv_iconst (v := 0) hx hb dM_step_347 (by decide) ?_
                      refine m_put hx hb hw inM tyM_ok nM hown hK hH hS 14 (by decide) (hw _ (gwd_6 (List.mem_of_getElem? (i := 6) rfl))) (by first | exact ⟨rfl, rfl⟩ | exact ⟨by assumption, rfl⟩ | exact ⟨by assumption, by assumption⟩ | exact ⟨by omega, rfl⟩ | exact ⟨by omega, by omega⟩ | exact ⟨by decide, rfl⟩) rfl rfl rfl rfl rfl rfl rfl (Nat.le_of_ble_eq_true rfl) rfl dM_step_348 (fun H locs hH hS => ?_)
                      refine lv_aload_n hx hb dM_step_351 rfl (lv_at hl 8 rfl) ?_
                      refine s_get hx hb hw inM hown hK hH 12 (by decide) (hw _ (gwd_6 (List.mem_of_getElem? (i := 4) rfl))) (by first | exact ⟨rfl, rfl⟩ | exact ⟨by assumption, rfl⟩ | exact ⟨by assumption, by assumption⟩ | exact ⟨by omega, rfl⟩ | exact ⟨by omega, by omega⟩ | exact ⟨by decide, rfl⟩) rfl rfl rfl rfl dM_step_352 ?_
                      refine lv_iload_n hx hb dM_step_355 rfl (lv_at hl 9 rfl) ?_
                      refine lv_iload hx hb dM_step_356 (lv_at hl 4 rfl) ?_
                      refine lv_bipush (v := 9) hx hb dM_step_358 (by decide) ?_
                      refine lv_icmp_ne hx hb dM_step_360 rfl (fun h_106 => ?_) (fun h_106 => ?_)
                      · skip
                        refine lv_iconst (v := 0) hx hb dM_step_374 (by decide) ?_
                        refine m_iast hx hb hK hH hS (by first | exact ⟨rfl, rfl⟩ | exact ⟨by assumption, rfl⟩ | exact ⟨by assumption, by assumption⟩ | exact ⟨by omega, rfl⟩ | exact ⟨by omega, by omega⟩ | exact ⟨by decide, rfl⟩) rfl _ (by first | rfl | assumption) (show _ < 14 from by omega) (by decide) rfl dM_step_375 (fun H locs hH hS => ?_)
                        refine lv_iload hx hb dM_step_376 (lv_at hl 4 rfl) ?_
                        refine lv_bipush (v := 8) hx hb dM_step_378 (by decide) ?_
                        refine lv_icmp_ne hx hb dM_step_380 rfl (fun h_107 => ?_) (fun h_107 => ?_)
                        · skip
                          refine lv_iload hx hb dM_step_387 (lv_at hl 4 rfl) ?_
                          refine lv_bipush (v := 9) hx hb dM_step_389 (by decide) ?_
                          refine lv_icmp_ne hx hb dM_step_391 rfl (fun h_108 => ?_) (fun h_108 => ?_)
                          · skip
                            refine lv_iload hx hb dM_step_398 (lv_at hl 4 rfl) ?_
                            refine lv_if_ne hx hb dM_step_400 rfl (fun h_109 => ?_) (fun h_109 => ?_)
                            · skip
                              refine lv_iconst (v := 0) hx hb dM_step_407 (by decide) ?_
                              exact r_i hx hb hr hlk hK hH hS dM_step_408 (by rw [hs]; simp [mPerf, eo, hA, hB, et2, hT2, mEnd, iu_at, bz, h_1, h_99])
                            · exact absurd h_109 (by decide)
                          · exact absurd h_108 (by decide)
                        · exact absurd h_107 (by decide)
                      · exact absurd h_106 (by decide)
                    · exact absurd h_105 (by decide)
                · exact absurd h_98 (by decide)
          · exact absurd h_95 (by decide)
      · exact absurd h_93 (by decide)
    · have eo : w &&& 15 = 8 := eo
      refine lv_iload hx hb dM_step_74 (lv_at hl 3 rfl) ?_
      refine lv_bipush (v := 10) hx hb dM_step_76 (by decide) ?_
      refine lv_icmp_le hx hb dM_step_78 rfl (fun h_110 => ?_) (fun h_110 => ?_)
      · skip
        refine lv_aload_n hx hb dM_step_83 rfl (lv_at hl 7 rfl) ?_
        refine s_get hx hb hw inM hown hK hH 11 (by decide) (hw _ (gwd_6 (List.mem_of_getElem? (i := 3) rfl))) (by first | exact ⟨rfl, rfl⟩ | exact ⟨by assumption, rfl⟩ | exact ⟨by assumption, by assumption⟩ | exact ⟨by omega, rfl⟩ | exact ⟨by omega, by omega⟩ | exact ⟨by decide, rfl⟩) rfl rfl rfl rfl dM_step_84 ?_
        refine lv_iload_n hx hb dM_step_87 rfl (lv_at hl 8 rfl) ?_
        refine m_iald hx hb hK hH (by first | exact ⟨rfl, rfl⟩ | exact ⟨by assumption, rfl⟩ | exact ⟨by assumption, by assumption⟩ | exact ⟨by omega, rfl⟩ | exact ⟨by omega, by omega⟩ | exact ⟨by decide, rfl⟩) rfl _ (by first | rfl | assumption) (show _ < 14 from by omega) (by decide) dM_step_88 ?_
        refine lv_iconst (v := 1) hx hb dM_step_89 (by decide) ?_
        refine lv_iadd hx hb dM_step_90 ?_
        refine lv_sipush (v := 255) hx hb dM_step_91 (by decide) ?_
        refine lv_iand hx hb dM_step_94 ?_
        refine lv_istore hx hb dM_step_95 hl (by decide) rfl (fun ls hl => ?_)
        have hl : lv_has ls 11 [(9, .int _), (8, .int _), (7, .int _), (6, .int _), (5, .int _), (4, .int _), (3, .int _), (2, .int _), (0, .ref _), (1, .int _)] := hl
        refine lv_iload hx hb dM_step_97 (lv_at hl 4 rfl) ?_
        refine lv_iconst (v := 3) hx hb dM_step_99 (by decide) ?_
        refine lv_icmp_eq hx hb dM_step_100 rfl (fun h_111 => ?_) (fun h_111 => ?_)
        · exact absurd h_111 (by decide)
        · skip
          refine lv_iload hx hb dM_step_103 (lv_at hl 4 rfl) ?_
          refine lv_iconst (v := 4) hx hb dM_step_105 (by decide) ?_
          refine lv_icmp_ne hx hb dM_step_106 rfl (fun h_112 => ?_) (fun h_112 => ?_)
          · skip
            refine lv_iload hx hb dM_step_172 (lv_at hl 4 rfl) ?_
            refine lv_bipush (v := 6) hx hb dM_step_174 (by decide) ?_
            refine lv_icmp_eq hx hb dM_step_176 rfl (fun h_113 => ?_) (fun h_113 => ?_)
            · exact absurd h_113 (by decide)
            · skip
              refine lv_iload hx hb dM_step_179 (lv_at hl 4 rfl) ?_
              refine lv_bipush (v := 7) hx hb dM_step_181 (by decide) ?_
              refine lv_icmp_ne hx hb dM_step_183 rfl (fun h_114 => ?_) (fun h_114 => ?_)
              · skip
                refine lv_iload hx hb dM_step_231 (lv_at hl 4 rfl) ?_
                refine lv_iconst (v := 5) hx hb dM_step_233 (by decide) ?_
                refine lv_icmp_ne hx hb dM_step_234 rfl (fun h_115 => ?_) (fun h_115 => ?_)
                · skip
                  refine lv_iload hx hb dM_step_263 (lv_at hl 4 rfl) ?_
                  refine lv_iconst (v := 1) hx hb dM_step_265 (by decide) ?_
                  refine lv_icmp_ne hx hb dM_step_266 rfl (fun h_116 => ?_) (fun h_116 => ?_)
                  · skip
                    refine lv_iload hx hb dM_step_281 (lv_at hl 4 rfl) ?_
                    refine lv_iconst (v := 2) hx hb dM_step_283 (by decide) ?_
                    refine lv_icmp_ne hx hb dM_step_284 rfl (fun h_117 => ?_) (fun h_117 => ?_)
                    · skip
                      refine lv_iload hx hb dM_step_302 (lv_at hl 4 rfl) ?_
                      refine lv_bipush (v := 10) hx hb dM_step_304 (by decide) ?_
                      refine lv_icmp_ne hx hb dM_step_306 rfl (fun h_118 => ?_) (fun h_118 => ?_)
                      · skip
                        refine lv_aload_n hx hb dM_step_321 rfl (lv_at hl 8 rfl) ?_
                        refine s_get hx hb hw inM hown hK hH 11 (by decide) (hw _ (gwd_6 (List.mem_of_getElem? (i := 3) rfl))) (by first | exact ⟨rfl, rfl⟩ | exact ⟨by assumption, rfl⟩ | exact ⟨by assumption, by assumption⟩ | exact ⟨by omega, rfl⟩ | exact ⟨by omega, by omega⟩ | exact ⟨by decide, rfl⟩) rfl rfl rfl rfl dM_step_322 ?_
                        refine lv_iload_n hx hb dM_step_325 rfl (lv_at hl 9 rfl) ?_
                        refine lv_iload hx hb dM_step_326 (lv_at hl 0 rfl) ?_
                        refine m_iast hx hb hK hH hS (by first | exact ⟨rfl, rfl⟩ | exact ⟨by assumption, rfl⟩ | exact ⟨by assumption, by assumption⟩ | exact ⟨by omega, rfl⟩ | exact ⟨by omega, by omega⟩ | exact ⟨by decide, rfl⟩) rfl _ (by first | rfl | assumption) (show _ < 14 from by omega) (by decide) rfl dM_step_328 (fun H locs hH hS => ?_)
                        refine lv_aload_n hx hb dM_step_329 rfl (lv_at hl 8 rfl) ?_
                        refine lv_iload hx hb dM_step_330 (lv_at hl 4 rfl) ?_
                        refine lv_bipush (v := 8) hx hb dM_step_332 (by decide) ?_
                        refine lv_icmp_ne hx hb dM_step_334 rfl (fun h_119 => ?_) (fun h_119 => ?_)
                        · exact absurd h_119 (by decide)
                        · skip
                          refine lv_aload_n hx hb dM_step_337 rfl (lv_at hl 8 rfl) ?_
                          refine s_get hx hb hw inM hown hK hH 10 (by decide) (hw _ (gwd_6 (List.mem_of_getElem? (i := 2) rfl))) (by first | exact ⟨rfl, rfl⟩ | exact ⟨by assumption, rfl⟩ | exact ⟨by assumption, by assumption⟩ | exact ⟨by omega, rfl⟩ | exact ⟨by omega, by omega⟩ | exact ⟨by decide, rfl⟩) rfl rfl rfl rfl dM_step_338 ?_
                          refine lv_iload hx hb dM_step_341 (lv_at hl 3 rfl) ?_
                          refine m_iald hx hb hK hH (by first | exact ⟨rfl, rfl⟩ | exact ⟨by assumption, rfl⟩ | exact ⟨by assumption, by assumption⟩ | exact ⟨by omega, rfl⟩ | exact ⟨by omega, by omega⟩ | exact ⟨by decide, rfl⟩) rfl (4 * q + a) rfl (show _ < 56 from by omega) (by decide) dM_step_343 ?_
                          refine lv_goto hx hb dM_step_344 rfl ?_
                          refine m_put hx hb hw inM tyM_ok nM hown hK hH hS 14 (by decide) (hw _ (gwd_6 (List.mem_of_getElem? (i := 6) rfl))) (by first | exact ⟨rfl, rfl⟩ | exact ⟨by assumption, rfl⟩ | exact ⟨by assumption, by assumption⟩ | exact ⟨by omega, rfl⟩ | exact ⟨by omega, by omega⟩ | exact ⟨by decide, rfl⟩) rfl rfl rfl rfl rfl rfl rfl (Nat.le_of_ble_eq_true rfl) rfl dM_step_348 (fun H locs hH hS => ?_)
                          refine lv_aload_n hx hb dM_step_351 rfl (lv_at hl 8 rfl) ?_
                          refine s_get hx hb hw inM hown hK hH 12 (by decide) (hw _ (gwd_6 (List.mem_of_getElem? (i := 4) rfl))) (by first | exact ⟨rfl, rfl⟩ | exact ⟨by assumption, rfl⟩ | exact ⟨by assumption, by assumption⟩ | exact ⟨by omega, rfl⟩ | exact ⟨by omega, by omega⟩ | exact ⟨by decide, rfl⟩) rfl rfl rfl rfl dM_step_352 ?_
                          refine lv_iload_n hx hb dM_step_355 rfl (lv_at hl 9 rfl) ?_
                          refine lv_iload hx hb dM_step_356 (lv_at hl 4 rfl) ?_
                          refine lv_bipush (v := 9) hx hb dM_step_358 (by decide) ?_
                          refine lv_icmp_ne hx hb dM_step_360 rfl (fun h_120 => ?_) (fun h_120 => ?_)
                          · skip
                            refine lv_iconst (v := 0) hx hb dM_step_374 (by decide) ?_
                            refine m_iast hx hb hK hH hS (by first | exact ⟨rfl, rfl⟩ | exact ⟨by assumption, rfl⟩ | exact ⟨by assumption, by assumption⟩ | exact ⟨by omega, rfl⟩ | exact ⟨by omega, by omega⟩ | exact ⟨by decide, rfl⟩) rfl _ (by first | rfl | assumption) (show _ < 14 from by omega) (by decide) rfl dM_step_375 (fun H locs hH hS => ?_)
                            refine lv_iload hx hb dM_step_376 (lv_at hl 4 rfl) ?_
                            refine lv_bipush (v := 8) hx hb dM_step_378 (by decide) ?_
                            refine lv_icmp_ne hx hb dM_step_380 rfl (fun h_121 => ?_) (fun h_121 => ?_)
                            · exact absurd h_121 (by decide)
                            · skip
                              refine lv_iconst (v := 2) hx hb dM_step_383 (by decide) ?_
                              refine lv_goto hx hb dM_step_384 rfl ?_
                              exact r_i hx hb hr hlk hK hH hS dM_step_408 (by rw [hs]; simp [mPerf, eo, hA, hB, mEnd, iu_at, h_1])
                          · exact absurd h_120 (by decide)
                      · exact absurd h_118 (by decide)
                    · exact absurd h_117 (by decide)
                  · exact absurd h_116 (by decide)
                · exact absurd h_115 (by decide)
              · exact absurd h_114 (by decide)
          · exact absurd h_112 (by decide)
      · exact absurd h_110 (by decide)
    · have eo : w &&& 15 = 9 := eo
      refine lv_iload hx hb dM_step_74 (lv_at hl 3 rfl) ?_
      refine lv_bipush (v := 10) hx hb dM_step_76 (by decide) ?_
      refine lv_icmp_le hx hb dM_step_78 rfl (fun h_122 => ?_) (fun h_122 => ?_)
      · skip
        refine lv_aload_n hx hb dM_step_83 rfl (lv_at hl 7 rfl) ?_
        refine s_get hx hb hw inM hown hK hH 11 (by decide) (hw _ (gwd_6 (List.mem_of_getElem? (i := 3) rfl))) (by first | exact ⟨rfl, rfl⟩ | exact ⟨by assumption, rfl⟩ | exact ⟨by assumption, by assumption⟩ | exact ⟨by omega, rfl⟩ | exact ⟨by omega, by omega⟩ | exact ⟨by decide, rfl⟩) rfl rfl rfl rfl dM_step_84 ?_
        refine lv_iload_n hx hb dM_step_87 rfl (lv_at hl 8 rfl) ?_
        refine m_iald hx hb hK hH (by first | exact ⟨rfl, rfl⟩ | exact ⟨by assumption, rfl⟩ | exact ⟨by assumption, by assumption⟩ | exact ⟨by omega, rfl⟩ | exact ⟨by omega, by omega⟩ | exact ⟨by decide, rfl⟩) rfl _ (by first | rfl | assumption) (show _ < 14 from by omega) (by decide) dM_step_88 ?_
        refine lv_iconst (v := 1) hx hb dM_step_89 (by decide) ?_
        refine lv_iadd hx hb dM_step_90 ?_
        refine lv_sipush (v := 255) hx hb dM_step_91 (by decide) ?_
        refine lv_iand hx hb dM_step_94 ?_
        refine lv_istore hx hb dM_step_95 hl (by decide) rfl (fun ls hl => ?_)
        have hl : lv_has ls 11 [(9, .int _), (8, .int _), (7, .int _), (6, .int _), (5, .int _), (4, .int _), (3, .int _), (2, .int _), (0, .ref _), (1, .int _)] := hl
        refine lv_iload hx hb dM_step_97 (lv_at hl 4 rfl) ?_
        refine lv_iconst (v := 3) hx hb dM_step_99 (by decide) ?_
        refine lv_icmp_eq hx hb dM_step_100 rfl (fun h_123 => ?_) (fun h_123 => ?_)
        · exact absurd h_123 (by decide)
        · skip
          refine lv_iload hx hb dM_step_103 (lv_at hl 4 rfl) ?_
          refine lv_iconst (v := 4) hx hb dM_step_105 (by decide) ?_
          refine lv_icmp_ne hx hb dM_step_106 rfl (fun h_124 => ?_) (fun h_124 => ?_)
          · skip
            refine lv_iload hx hb dM_step_172 (lv_at hl 4 rfl) ?_
            refine lv_bipush (v := 6) hx hb dM_step_174 (by decide) ?_
            refine lv_icmp_eq hx hb dM_step_176 rfl (fun h_125 => ?_) (fun h_125 => ?_)
            · exact absurd h_125 (by decide)
            · skip
              refine lv_iload hx hb dM_step_179 (lv_at hl 4 rfl) ?_
              refine lv_bipush (v := 7) hx hb dM_step_181 (by decide) ?_
              refine lv_icmp_ne hx hb dM_step_183 rfl (fun h_126 => ?_) (fun h_126 => ?_)
              · skip
                refine lv_iload hx hb dM_step_231 (lv_at hl 4 rfl) ?_
                refine lv_iconst (v := 5) hx hb dM_step_233 (by decide) ?_
                refine lv_icmp_ne hx hb dM_step_234 rfl (fun h_127 => ?_) (fun h_127 => ?_)
                · skip
                  refine lv_iload hx hb dM_step_263 (lv_at hl 4 rfl) ?_
                  refine lv_iconst (v := 1) hx hb dM_step_265 (by decide) ?_
                  refine lv_icmp_ne hx hb dM_step_266 rfl (fun h_128 => ?_) (fun h_128 => ?_)
                  · skip
                    refine lv_iload hx hb dM_step_281 (lv_at hl 4 rfl) ?_
                    refine lv_iconst (v := 2) hx hb dM_step_283 (by decide) ?_
                    refine lv_icmp_ne hx hb dM_step_284 rfl (fun h_129 => ?_) (fun h_129 => ?_)
                    · skip
                      refine lv_iload hx hb dM_step_302 (lv_at hl 4 rfl) ?_
                      refine lv_bipush (v := 10) hx hb dM_step_304 (by decide) ?_
                      refine lv_icmp_ne hx hb dM_step_306 rfl (fun h_130 => ?_) (fun h_130 => ?_)
                      · skip
                        refine lv_aload_n hx hb dM_step_321 rfl (lv_at hl 8 rfl) ?_
                        refine s_get hx hb hw inM hown hK hH 11 (by decide) (hw _ (gwd_6 (List.mem_of_getElem? (i := 3) rfl))) (by first | exact ⟨rfl, rfl⟩ | exact ⟨by assumption, rfl⟩ | exact ⟨by assumption, by assumption⟩ | exact ⟨by omega, rfl⟩ | exact ⟨by omega, by omega⟩ | exact ⟨by decide, rfl⟩) rfl rfl rfl rfl dM_step_322 ?_
                        refine lv_iload_n hx hb dM_step_325 rfl (lv_at hl 9 rfl) ?_
                        refine lv_iload hx hb dM_step_326 (lv_at hl 0 rfl) ?_
                        refine m_iast hx hb hK hH hS (by first | exact ⟨rfl, rfl⟩ | exact ⟨by assumption, rfl⟩ | exact ⟨by assumption, by assumption⟩ | exact ⟨by omega, rfl⟩ | exact ⟨by omega, by omega⟩ | exact ⟨by decide, rfl⟩) rfl _ (by first | rfl | assumption) (show _ < 14 from by omega) (by decide) rfl dM_step_328 (fun H locs hH hS => ?_)
                        refine lv_aload_n hx hb dM_step_329 rfl (lv_at hl 8 rfl) ?_
                        refine lv_iload hx hb dM_step_330 (lv_at hl 4 rfl) ?_
                        refine lv_bipush (v := 8) hx hb dM_step_332 (by decide) ?_
                        refine lv_icmp_ne hx hb dM_step_334 rfl (fun h_131 => ?_) (fun h_131 => ?_)
                        · skip
                          refine lv_iconst (v := 0) hx hb dM_step_347 (by decide) ?_
                          refine m_put hx hb hw inM tyM_ok nM hown hK hH hS 14 (by decide) (hw _ (gwd_6 (List.mem_of_getElem? (i := 6) rfl))) (by first | exact ⟨rfl, rfl⟩ | exact ⟨by assumption, rfl⟩ | exact ⟨by assumption, by assumption⟩ | exact ⟨by omega, rfl⟩ | exact ⟨by omega, by omega⟩ | exact ⟨by decide, rfl⟩) rfl rfl rfl rfl rfl rfl rfl (Nat.le_of_ble_eq_true rfl) rfl dM_step_348 (fun H locs hH hS => ?_)
                          refine lv_aload_n hx hb dM_step_351 rfl (lv_at hl 8 rfl) ?_
                          refine s_get hx hb hw inM hown hK hH 12 (by decide) (hw _ (gwd_6 (List.mem_of_getElem? (i := 4) rfl))) (by first | exact ⟨rfl, rfl⟩ | exact ⟨by assumption, rfl⟩ | exact ⟨by assumption, by assumption⟩ | exact ⟨by omega, rfl⟩ | exact ⟨by omega, by omega⟩ | exact ⟨by decide, rfl⟩) rfl rfl rfl rfl dM_step_352 ?_
                          refine lv_iload_n hx hb dM_step_355 rfl (lv_at hl 9 rfl) ?_
                          refine lv_iload hx hb dM_step_356 (lv_at hl 4 rfl) ?_
                          refine lv_bipush (v := 9) hx hb dM_step_358 (by decide) ?_
                          refine lv_icmp_ne hx hb dM_step_360 rfl (fun h_132 => ?_) (fun h_132 => ?_)
                          · exact absurd h_132 (by decide)
                          · skip
                            refine lv_iconst (v := 1) hx hb dM_step_363 (by decide) ?_
                            refine lv_iload hx hb dM_step_364 (lv_at hl 5 rfl) ?_
                            refine lv_iconst (v := 4) hx hb dM_step_366 (by decide) ?_
                            refine lv_ishr hx hb dM_step_367 ?_
                            refine lv_iconst (v := 3) hx hb dM_step_368 (by decide) ?_
                            refine lv_iand hx hb dM_step_369 ?_
                            rw [ea]
                            refine lv_iadd hx hb dM_step_370 ?_
                            refine lv_goto hx hb dM_step_371 rfl ?_
                            refine m_iast hx hb hK hH hS (by first | exact ⟨rfl, rfl⟩ | exact ⟨by assumption, rfl⟩ | exact ⟨by assumption, by assumption⟩ | exact ⟨by omega, rfl⟩ | exact ⟨by omega, by omega⟩ | exact ⟨by decide, rfl⟩) rfl _ (by first | rfl | assumption) (show _ < 14 from by omega) (by decide) rfl dM_step_375 (fun H locs hH hS => ?_)
                            refine lv_iload hx hb dM_step_376 (lv_at hl 4 rfl) ?_
                            refine lv_bipush (v := 8) hx hb dM_step_378 (by decide) ?_
                            refine lv_icmp_ne hx hb dM_step_380 rfl (fun h_133 => ?_) (fun h_133 => ?_)
                            · skip
                              refine lv_iload hx hb dM_step_387 (lv_at hl 4 rfl) ?_
                              refine lv_bipush (v := 9) hx hb dM_step_389 (by decide) ?_
                              refine lv_icmp_ne hx hb dM_step_391 rfl (fun h_134 => ?_) (fun h_134 => ?_)
                              · exact absurd h_134 (by decide)
                              · skip
                                refine lv_iconst (v := 3) hx hb dM_step_394 (by decide) ?_
                                refine lv_goto hx hb dM_step_395 rfl ?_
                                exact r_i hx hb hr hlk hK hH hS dM_step_408 (by rw [hs]; simp [mPerf, eo, hA, hB, mEnd, iu_at, h_1])
                            · exact absurd h_133 (by decide)
                        · exact absurd h_131 (by decide)
                      · exact absurd h_130 (by decide)
                    · exact absurd h_129 (by decide)
                  · exact absurd h_128 (by decide)
                · exact absurd h_127 (by decide)
              · exact absurd h_126 (by decide)
          · exact absurd h_124 (by decide)
      · exact absurd h_122 (by decide)
    · have eo : w &&& 15 = 10 := eo
      refine lv_iload hx hb dM_step_74 (lv_at hl 3 rfl) ?_
      refine lv_bipush (v := 10) hx hb dM_step_76 (by decide) ?_
      refine lv_icmp_le hx hb dM_step_78 rfl (fun h_135 => ?_) (fun h_135 => ?_)
      · skip
        refine lv_aload_n hx hb dM_step_83 rfl (lv_at hl 7 rfl) ?_
        refine s_get hx hb hw inM hown hK hH 11 (by decide) (hw _ (gwd_6 (List.mem_of_getElem? (i := 3) rfl))) (by first | exact ⟨rfl, rfl⟩ | exact ⟨by assumption, rfl⟩ | exact ⟨by assumption, by assumption⟩ | exact ⟨by omega, rfl⟩ | exact ⟨by omega, by omega⟩ | exact ⟨by decide, rfl⟩) rfl rfl rfl rfl dM_step_84 ?_
        refine lv_iload_n hx hb dM_step_87 rfl (lv_at hl 8 rfl) ?_
        refine m_iald hx hb hK hH (by first | exact ⟨rfl, rfl⟩ | exact ⟨by assumption, rfl⟩ | exact ⟨by assumption, by assumption⟩ | exact ⟨by omega, rfl⟩ | exact ⟨by omega, by omega⟩ | exact ⟨by decide, rfl⟩) rfl _ (by first | rfl | assumption) (show _ < 14 from by omega) (by decide) dM_step_88 ?_
        refine lv_iconst (v := 1) hx hb dM_step_89 (by decide) ?_
        refine lv_iadd hx hb dM_step_90 ?_
        refine lv_sipush (v := 255) hx hb dM_step_91 (by decide) ?_
        refine lv_iand hx hb dM_step_94 ?_
        refine lv_istore hx hb dM_step_95 hl (by decide) rfl (fun ls hl => ?_)
        have hl : lv_has ls 11 [(9, .int _), (8, .int _), (7, .int _), (6, .int _), (5, .int _), (4, .int _), (3, .int _), (2, .int _), (0, .ref _), (1, .int _)] := hl
        refine lv_iload hx hb dM_step_97 (lv_at hl 4 rfl) ?_
        refine lv_iconst (v := 3) hx hb dM_step_99 (by decide) ?_
        refine lv_icmp_eq hx hb dM_step_100 rfl (fun h_136 => ?_) (fun h_136 => ?_)
        · exact absurd h_136 (by decide)
        · skip
          refine lv_iload hx hb dM_step_103 (lv_at hl 4 rfl) ?_
          refine lv_iconst (v := 4) hx hb dM_step_105 (by decide) ?_
          refine lv_icmp_ne hx hb dM_step_106 rfl (fun h_137 => ?_) (fun h_137 => ?_)
          · skip
            refine lv_iload hx hb dM_step_172 (lv_at hl 4 rfl) ?_
            refine lv_bipush (v := 6) hx hb dM_step_174 (by decide) ?_
            refine lv_icmp_eq hx hb dM_step_176 rfl (fun h_138 => ?_) (fun h_138 => ?_)
            · exact absurd h_138 (by decide)
            · skip
              refine lv_iload hx hb dM_step_179 (lv_at hl 4 rfl) ?_
              refine lv_bipush (v := 7) hx hb dM_step_181 (by decide) ?_
              refine lv_icmp_ne hx hb dM_step_183 rfl (fun h_139 => ?_) (fun h_139 => ?_)
              · skip
                refine lv_iload hx hb dM_step_231 (lv_at hl 4 rfl) ?_
                refine lv_iconst (v := 5) hx hb dM_step_233 (by decide) ?_
                refine lv_icmp_ne hx hb dM_step_234 rfl (fun h_140 => ?_) (fun h_140 => ?_)
                · skip
                  refine lv_iload hx hb dM_step_263 (lv_at hl 4 rfl) ?_
                  refine lv_iconst (v := 1) hx hb dM_step_265 (by decide) ?_
                  refine lv_icmp_ne hx hb dM_step_266 rfl (fun h_141 => ?_) (fun h_141 => ?_)
                  · skip
                    refine lv_iload hx hb dM_step_281 (lv_at hl 4 rfl) ?_
                    refine lv_iconst (v := 2) hx hb dM_step_283 (by decide) ?_
                    refine lv_icmp_ne hx hb dM_step_284 rfl (fun h_142 => ?_) (fun h_142 => ?_)
                    · skip
                      refine lv_iload hx hb dM_step_302 (lv_at hl 4 rfl) ?_
                      refine lv_bipush (v := 10) hx hb dM_step_304 (by decide) ?_
                      refine lv_icmp_ne hx hb dM_step_306 rfl (fun h_143 => ?_) (fun h_143 => ?_)
                      · exact absurd h_143 (by decide)
                      · skip
                        refine lv_aload_n hx hb dM_step_309 rfl (lv_at hl 8 rfl) ?_
                        refine s_get hx hb hw inM hown hK hH 10 (by decide) (hw _ (gwd_6 (List.mem_of_getElem? (i := 2) rfl))) (by first | exact ⟨rfl, rfl⟩ | exact ⟨by assumption, rfl⟩ | exact ⟨by assumption, by assumption⟩ | exact ⟨by omega, rfl⟩ | exact ⟨by omega, by omega⟩ | exact ⟨by decide, rfl⟩) rfl rfl rfl rfl dM_step_310 ?_
                        refine lv_iload hx hb dM_step_313 (lv_at hl 3 rfl) ?_
                        refine lv_dup2_11 hx hb dM_step_315 rfl rfl ?_
                        refine m_iald hx hb hK hH (by first | exact ⟨rfl, rfl⟩ | exact ⟨by assumption, rfl⟩ | exact ⟨by assumption, by assumption⟩ | exact ⟨by omega, rfl⟩ | exact ⟨by omega, by omega⟩ | exact ⟨by decide, rfl⟩) rfl (4 * q + a) rfl (show _ < 56 from by omega) (by decide) dM_step_316 ?_
                        refine lv_iload hx hb dM_step_317 (lv_at hl 2 rfl) ?_
                        refine lv_ixor hx hb dM_step_319 ?_
                        refine m_iast hx hb hK hH hS (by first | exact ⟨rfl, rfl⟩ | exact ⟨by assumption, rfl⟩ | exact ⟨by assumption, by assumption⟩ | exact ⟨by omega, rfl⟩ | exact ⟨by omega, by omega⟩ | exact ⟨by decide, rfl⟩) rfl (4 * q + a) rfl (show _ < 56 from by omega) (by decide) rfl dM_step_320 (fun H locs hH hS => ?_)
                        refine lv_aload_n hx hb dM_step_321 rfl (lv_at hl 8 rfl) ?_
                        refine s_get hx hb hw inM hown hK hH 11 (by decide) (hw _ (gwd_6 (List.mem_of_getElem? (i := 3) rfl))) (by first | exact ⟨rfl, rfl⟩ | exact ⟨by assumption, rfl⟩ | exact ⟨by assumption, by assumption⟩ | exact ⟨by omega, rfl⟩ | exact ⟨by omega, by omega⟩ | exact ⟨by decide, rfl⟩) rfl rfl rfl rfl dM_step_322 ?_
                        refine lv_iload_n hx hb dM_step_325 rfl (lv_at hl 9 rfl) ?_
                        refine lv_iload hx hb dM_step_326 (lv_at hl 0 rfl) ?_
                        refine m_iast hx hb hK hH hS (by first | exact ⟨rfl, rfl⟩ | exact ⟨by assumption, rfl⟩ | exact ⟨by assumption, by assumption⟩ | exact ⟨by omega, rfl⟩ | exact ⟨by omega, by omega⟩ | exact ⟨by decide, rfl⟩) rfl _ (by first | rfl | assumption) (show _ < 14 from by omega) (by decide) rfl dM_step_328 (fun H locs hH hS => ?_)
                        refine lv_aload_n hx hb dM_step_329 rfl (lv_at hl 8 rfl) ?_
                        refine lv_iload hx hb dM_step_330 (lv_at hl 4 rfl) ?_
                        refine lv_bipush (v := 8) hx hb dM_step_332 (by decide) ?_
                        refine lv_icmp_ne hx hb dM_step_334 rfl (fun h_144 => ?_) (fun h_144 => ?_)
                        · skip
                          refine lv_iconst (v := 0) hx hb dM_step_347 (by decide) ?_
                          refine m_put hx hb hw inM tyM_ok nM hown hK hH hS 14 (by decide) (hw _ (gwd_6 (List.mem_of_getElem? (i := 6) rfl))) (by first | exact ⟨rfl, rfl⟩ | exact ⟨by assumption, rfl⟩ | exact ⟨by assumption, by assumption⟩ | exact ⟨by omega, rfl⟩ | exact ⟨by omega, by omega⟩ | exact ⟨by decide, rfl⟩) rfl rfl rfl rfl rfl rfl rfl (Nat.le_of_ble_eq_true rfl) rfl dM_step_348 (fun H locs hH hS => ?_)
                          refine lv_aload_n hx hb dM_step_351 rfl (lv_at hl 8 rfl) ?_
                          refine s_get hx hb hw inM hown hK hH 12 (by decide) (hw _ (gwd_6 (List.mem_of_getElem? (i := 4) rfl))) (by first | exact ⟨rfl, rfl⟩ | exact ⟨by assumption, rfl⟩ | exact ⟨by assumption, by assumption⟩ | exact ⟨by omega, rfl⟩ | exact ⟨by omega, by omega⟩ | exact ⟨by decide, rfl⟩) rfl rfl rfl rfl dM_step_352 ?_
                          refine lv_iload_n hx hb dM_step_355 rfl (lv_at hl 9 rfl) ?_
                          refine lv_iload hx hb dM_step_356 (lv_at hl 4 rfl) ?_
                          refine lv_bipush (v := 9) hx hb dM_step_358 (by decide) ?_
                          refine lv_icmp_ne hx hb dM_step_360 rfl (fun h_145 => ?_) (fun h_145 => ?_)
                          · skip
                            refine lv_iconst (v := 0) hx hb dM_step_374 (by decide) ?_
                            refine m_iast hx hb hK hH hS (by first | exact ⟨rfl, rfl⟩ | exact ⟨by assumption, rfl⟩ | exact ⟨by assumption, by assumption⟩ | exact ⟨by omega, rfl⟩ | exact ⟨by omega, by omega⟩ | exact ⟨by decide, rfl⟩) rfl _ (by first | rfl | assumption) (show _ < 14 from by omega) (by decide) rfl dM_step_375 (fun H locs hH hS => ?_)
                            refine lv_iload hx hb dM_step_376 (lv_at hl 4 rfl) ?_
                            refine lv_bipush (v := 8) hx hb dM_step_378 (by decide) ?_
                            refine lv_icmp_ne hx hb dM_step_380 rfl (fun h_146 => ?_) (fun h_146 => ?_)
                            · skip
                              refine lv_iload hx hb dM_step_387 (lv_at hl 4 rfl) ?_
                              refine lv_bipush (v := 9) hx hb dM_step_389 (by decide) ?_
                              refine lv_icmp_ne hx hb dM_step_391 rfl (fun h_147 => ?_) (fun h_147 => ?_)
                              · skip
                                refine lv_iload hx hb dM_step_398 (lv_at hl 4 rfl) ?_
                                refine lv_if_ne hx hb dM_step_400 rfl (fun h_148 => ?_) (fun h_148 => ?_)
                                · skip
                                  refine lv_iconst (v := 0) hx hb dM_step_407 (by decide) ?_
                                  exact r_i hx hb hr hlk hK hH hS dM_step_408 (by rw [hs]; simp [mPerf, eo, hA, hB, mEnd, iu_at, h_1])
                                · exact absurd h_148 (by decide)
                              · exact absurd h_147 (by decide)
                            · exact absurd h_146 (by decide)
                          · exact absurd h_145 (by decide)
                        · exact absurd h_144 (by decide)
                    · exact absurd h_142 (by decide)
                  · exact absurd h_141 (by decide)
                · exact absurd h_140 (by decide)
              · exact absurd h_139 (by decide)
          · exact absurd h_137 (by decide)
      · exact absurd h_135 (by decide)
    · skip
      refine lv_iload hx hb dM_step_74 (lv_at hl 3 rfl) ?_
      refine lv_bipush (v := 10) hx hb dM_step_76 (by decide) ?_
      refine lv_icmp_le hx hb dM_step_78 rfl (fun h_149 => ?_) (fun h_149 => ?_)
      · exact absurd h_149 (nI_ge (a := 10) hbig (by omega))
      · skip
        refine lv_iconst (v := 5) hx hb dM_step_81 (by decide) ?_
        exact r_i hx hb hr hlk hK hH hS dM_step_82 (by rw [hs, mPerf_bad (hbg hbig)]; exact ⟨rfl, rfl⟩)
  · skip
    refine lv_iconst (v := 1) hx hb dM_step_20 (by decide) ?_
    exact r_i hx hb hr hlk hK hH hS dM_step_21 (by unfold mStep; rw [et, ix_nI (show t < 2 ^ 31 by omega), if_pos (Int32.not_le.mp h_1)]; exact ⟨rfl, rfl⟩)
