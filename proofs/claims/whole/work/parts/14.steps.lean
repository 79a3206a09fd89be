def pcOK (I : gI) (g v : Nat) : Prop := ∃ t, t < 256 ∧ I (9, g, v) 1 = nI t
theorem and255 (x : Int32) : ∃ t, t < 256 ∧ x &&& 255 = nI t := pk_andE (m := 255) x 8 (by decide)
theorem sMove_pc {I : gI} {P : gP} {g v : Nat} {b : Prop} [Decidable b] {a t : Nat} : (sMove I P g v b a t).2 (9, g, v) 1 = I (9, g, v) 1 := by
  unfold sMove
  split
  · simp [sFault, iu_at]
  · split <;> simp [iu_at]
theorem pc_iu {I : gI} {g v : Nat} {x : Int32} (h : ∃ t, t < 256 ∧ x = nI t) : pcOK (iu I (pr g v) 1 x) g v := by
  obtain ⟨t, ht, rfl⟩ := h
  exact ⟨t, ht, by simp [iu_at]⟩
theorem sPerf_pc {I : gI} {P : gP} {g v : Nat} {w : Int32} (h : pcOK I g v) : pcOK (sPerf I P g v w).2 g v := by
  unfold sPerf
  split
  · exact pc_iu (and255 _)
  split
  · exact pc_iu (and255 _)
  split
  · exact pc_iu (and255 _)
  split
  · split
    · obtain ⟨t, ht, e⟩ := h
      exact ⟨t, ht, by rw [sMove_pc]; exact e⟩
    · exact pc_iu (and255 _)
  split
  · refine pc_iu ?_
    split
    · exact and255 _
    · exact and255 _
  split
  · exact pc_iu (and255 _)
  split
  · exact pc_iu (and255 _)
  split
  · exact pc_iu (and255 _)
  split
  · exact pc_iu (and255 _)
  · exact h
theorem sStep_pc {I : gI} {P : gP} {g v : Nat} (h : pcOK I g v) : pcOK (sStep P g v I).2 g v := by
  unfold sStep
  split
  · obtain ⟨t, ht, e⟩ := h
    exact ⟨t, ht, by simp [sFault, iu_at]; exact e⟩
  · exact sPerf_pc h
set_option maxHeartbeats 4000000 in
set_option maxRecDepth 100000 in
theorem c_R_makeStep (l : Launch) {D : va_G} {c : Nat → ClassId} {sz : Nat} {ad : gN → Nat} {k : Nat} {I J : gI} {P : gP} {LG : Option Nat} {LP : Option (Nat × Nat)} {g v : Nat} (hg : g < k) (hv1 : v < 2) (hpc : pcOK I g v) (hPl : ∀ g a q, P g a = some q → q < 24) : Met l yR_makeStep wR_makeStep { frames := 4, cells := 0, slots := 0, locals := 92 } (gPre D c sz [.ref (ad (9, g, v)), .ref (ad (6, g, 0))] (ad, k, I, J, P, LG, LP)) (va_Qi (fun r u => r = (sStep P g v I).1 ∧ u = (ad, k, (sStep P g v I).2, J, P, LG, LP)) (gB D c sz) (gA sz)) 0 0 (gA sz) := by
  refine Met.ofW (cc := cR_makeStep) (maxL := 3) (ret := (some .int)) (by decide) rfl ?_
  intro p e s m args below meth cd s₁ B hml hv
  obtain ⟨rfl, hK, hH⟩ := hv
  have hx := B.exec
  have hb := B.bytes
  have hr := B.returns
  have hts := atoms_spec (ws := wR_makeStep) B.pre
  have hw : ∀ w ∈ gWd, w.before _ s = true := fun w h => hts w (List.mem_cons_of_mem _ h)
  have hown : s.vm.findClass RR = some m.cls := findClass_of_methodNamed B.named
  have hlk := B.notSynchronized
  have hS : va_S (gA sz) s.heap s.heap [] := va_S.rf
  have hH : gW D c sz ad k I J P LG LP s.heap := hH
  have hl := lv_entry ([.ref (ad (9, g, v)), .ref (ad (6, g, 0))]) (n := 3) (Nat.le_of_ble_eq_true rfl)
  rw [lg_entry_eq]
  generalize (lg_sl ([.ref (ad (9, g, v)), .ref (ad (6, g, 0))]) ++ List.replicate (3 - (lg_sl ([.ref (ad (9, g, v)), .ref (ad (6, g, 0))])).length) Slot.unset).toArray = ls at hl ⊢
  have hl : lv_has ls 3 [(0, .ref (ad (9, g, v))), (1, .ref (ad (6, g, 0)))] := hl
  obtain ⟨t, ht, et⟩ := hpc
  have erem : nI t - nI t / 4 * 4 = nI (t % 4) := pk_rem (d := 4) (by omega) (by decide) (by decide)
  refine lv_aload_n hx hb dR_makeStep_0 rfl (lv_at hl 1 rfl) ?_
  refine lv_aload_n hx hb dR_makeStep_1 rfl (lv_at hl 0 rfl) ?_
  refine s_get hx hb hw inR hown hK hH 1 (by decide) (hw _ (gwd_2 (List.mem_of_getElem? (i := 6) rfl))) (by first | exact ⟨rfl, rfl⟩ | exact ⟨by assumption, rfl⟩ | exact ⟨by assumption, by assumption⟩ | exact ⟨by omega, rfl⟩ | exact ⟨by omega, by omega⟩ | exact ⟨by decide, rfl⟩) rfl rfl rfl rfl dR_makeStep_2 ?_
  rw [et]
  refine s_cqE (va_runV (As := [.int _]) (rest := []) ⟨hx, hb, hml, hown, hw⟩ (c_G_pageAtAddress l  (by assumption) (by first | assumption | omega) (hPl)) (cwV 1 hw (gd_V (gwd_4 (List.mem_of_getElem? (i := 32) rfl)) (gwd_4 (List.mem_of_getElem? (i := 33) rfl)) (gwd_4 (List.mem_of_getElem? (i := 34) rfl)) (gwd_0 (List.mem_of_getElem? (i := 4) rfl)) (gwd_4 (List.mem_of_getElem? (i := 35) rfl))) rfl rfl rfl (by decide +kernel) ⟨Nat.le_of_ble_eq_true rfl, Nat.le_of_ble_eq_true rfl⟩) (gPre.V (n := (6, _, 0)) hK hH (by first | exact ⟨rfl, rfl⟩ | exact ⟨by assumption, rfl⟩ | exact ⟨by assumption, by assumption⟩ | exact ⟨by omega, rfl⟩ | exact ⟨by omega, by omega⟩ | exact ⟨by decide, rfl⟩) rfl rfl) rfl rfl hl.1 rfl (lv_room (Nat.le_of_ble_eq_true rfl)) dR_makeStep_5 ⟨Nat.zero_le _, Nat.zero_le _⟩) hS (fun H locs h_1 hH hS => ?_) (fun H locs g_2 h_1 hH hS => ?_)
  · skip
    refine lv_astore_nN hx hb dR_makeStep_8 rfl hl (by decide) rfl (fun ls hl => ?_)
    have hl : lv_has ls 3 [(2, .null), (0, .ref _), (1, .ref _)] := hl
    refine lv_aload_nN hx hb dR_makeStep_9 rfl (lv_at hl 0 rfl) ?_
    refine lv_ifnonnullN hx hb dR_makeStep_10 ?_
    refine lv_aload_n hx hb dR_makeStep_13 rfl (lv_at hl 1 rfl) ?_
    refine lv_aload_n hx hb dR_makeStep_14 rfl (lv_at hl 1 rfl) ?_
    refine s_get hx hb hw inR hown hK hH 1 (by decide) (hw _ (gwd_2 (List.mem_of_getElem? (i := 6) rfl))) (by first | exact ⟨rfl, rfl⟩ | exact ⟨by assumption, rfl⟩ | exact ⟨by assumption, by assumption⟩ | exact ⟨by omega, rfl⟩ | exact ⟨by omega, by omega⟩ | exact ⟨by decide, rfl⟩) rfl rfl rfl rfl dR_makeStep_15 ?_
    refine s_ciE (va_runV (As := [.int _]) (rest := []) ⟨hx, hb, hml, hown, hw⟩ (c_R_faultAt l  (by assumption) (by assumption)) (cwV 1 hw (gd_V (gwd_4 (List.mem_of_getElem? (i := 36) rfl)) (gwd_4 (List.mem_of_getElem? (i := 37) rfl)) (gwd_9 (List.mem_of_getElem? (i := 19) rfl)) (gwd_0 (List.mem_of_getElem? (i := 5) rfl)) (gwd_4 (List.mem_of_getElem? (i := 38) rfl))) rfl rfl rfl (by decide +kernel) ⟨Nat.le_of_ble_eq_true rfl, Nat.le_of_ble_eq_true rfl⟩) (gPre.V (n := (9, _, _)) hK hH (by first | exact ⟨rfl, rfl⟩ | exact ⟨by assumption, rfl⟩ | exact ⟨by assumption, by assumption⟩ | exact ⟨by omega, rfl⟩ | exact ⟨by omega, by omega⟩ | exact ⟨by decide, rfl⟩) rfl rfl) rfl rfl hl.1 rfl (lv_room (Nat.le_of_ble_eq_true rfl)) dR_makeStep_18 ⟨Nat.zero_le _, Nat.zero_le _⟩) hS (fun H locs hH hS => ?_)
    exact r_i hx hb hr hlk hK hH hS dR_makeStep_21 (by simp [sStep, et, ix_nI (show t < 2 ^ 31 by omega), h_1])
  · skip
    have hlt_g_2 : g_2 < 24 := hPl _ _ _ h_1
    refine lv_astore_n hx hb dR_makeStep_8 rfl hl (by decide) rfl (fun ls hl => ?_)
    have hl : lv_has ls 3 [(2, .ref _), (0, .ref _), (1, .ref _)] := hl
    refine lv_aload_n hx hb dR_makeStep_9 rfl (lv_at hl 0 rfl) ?_
    refine lv_ifnonnull hx hb dR_makeStep_10 rfl ?_
    refine lv_aload_n hx hb dR_makeStep_22 rfl (lv_at hl 1 rfl) ?_
    refine lv_aload_n hx hb dR_makeStep_23 rfl (lv_at hl 0 rfl) ?_
    refine s_get hx hb hw inP hown hK hH 0 (by decide) (hw _ (gwd_0 (List.mem_of_getElem? (i := 21) rfl))) (by first | exact ⟨rfl, rfl⟩ | exact ⟨by assumption, rfl⟩ | exact ⟨by assumption, by assumption⟩ | exact ⟨by omega, rfl⟩ | exact ⟨by omega, by omega⟩ | exact ⟨by decide, rfl⟩) rfl rfl rfl rfl dR_makeStep_24 ?_
    refine lv_aload_n hx hb dR_makeStep_27 rfl (lv_at hl 1 rfl) ?_
    refine s_get hx hb hw inR hown hK hH 1 (by decide) (hw _ (gwd_2 (List.mem_of_getElem? (i := 6) rfl))) (by first | exact ⟨rfl, rfl⟩ | exact ⟨by assumption, rfl⟩ | exact ⟨by assumption, by assumption⟩ | exact ⟨by omega, rfl⟩ | exact ⟨by omega, by omega⟩ | exact ⟨by decide, rfl⟩) rfl rfl rfl rfl dR_makeStep_28 ?_
    refine lv_iconst (v := 4) hx hb dR_makeStep_31 (by decide) ?_
    refine lv_irem hx hb dR_makeStep_32 (by decide) ?_
    rw [et, erem]
    refine s_iald hx hb hK hH (by first | exact ⟨rfl, rfl⟩ | exact ⟨by assumption, rfl⟩ | exact ⟨by assumption, by assumption⟩ | exact ⟨by omega, rfl⟩ | exact ⟨by omega, by omega⟩ | exact ⟨by decide, rfl⟩) rfl _ (by first | rfl | assumption) (by omega) (by decide) dR_makeStep_33 ?_
    refine lv_aload_n hx hb dR_makeStep_34 rfl (lv_at hl 2 rfl) ?_
    refine s_ciE (va_runV (As := [.int _, .ref _]) (rest := []) ⟨hx, hb, hml, hown, hw⟩ (c_R_perform l  (by assumption) (by assumption) (hPl)) (cwV 2 hw (gd_V (gwd_4 (List.mem_of_getElem? (i := 39) rfl)) (gwd_4 (List.mem_of_getElem? (i := 40) rfl)) (gwd_9 (List.mem_of_getElem? (i := 20) rfl)) (gwd_0 (List.mem_of_getElem? (i := 5) rfl)) (gwd_4 (List.mem_of_getElem? (i := 41) rfl))) rfl rfl rfl (by decide +kernel) ⟨Nat.le_of_ble_eq_true rfl, Nat.le_of_ble_eq_true rfl⟩) (gPre.V (n := (9, _, _)) hK hH (by first | exact ⟨rfl, rfl⟩ | exact ⟨by assumption, rfl⟩ | exact ⟨by assumption, by assumption⟩ | exact ⟨by omega, rfl⟩ | exact ⟨by omega, by omega⟩ | exact ⟨by decide, rfl⟩) rfl rfl) rfl rfl hl.1 rfl (lv_room (Nat.le_of_ble_eq_true rfl)) dR_makeStep_35 ⟨Nat.zero_le _, Nat.zero_le _⟩) hS (fun H locs hH hS => ?_)
    exact r_i hx hb hr hlk hK hH hS dR_makeStep_38 (by simp [sStep, et, ix_nI (show t < 2 ^ 31 by omega), h_1])
set_option maxHeartbeats 4000000 in
set_option maxRecDepth 100000 in
theorem c_R_makeSteps (l : Launch) {D : va_G} {c : Nat → ClassId} {sz : Nat} {ad : gN → Nat} {k : Nat} {I J : gI} {P : gP} {LG : Option Nat} {LP : Option (Nat × Nat)} {g v n : Nat} (hg : g < k) (hv1 : v < 2) (hn : n ≤ 64) (hpc : pcOK I g v) (hPl : ∀ g a q, P g a = some q → q < 24) : Met l yR_makeSteps wR_makeSteps { frames := 5, cells := 0, slots := 0, locals := 114 } (gPre D c sz [.ref (ad (9, g, v)), .int (nI n), .ref (ad (6, g, 0))] (ad, k, I, J, P, LG, LP)) (va_Qi (fun r u => r = (sMk P g v I n).1 ∧ u = (ad, k, (sMk P g v I n).2, J, P, LG, LP)) (gB D c sz) (gA sz)) 0 0 (gA sz) := by
  refine Met.ofW (cc := cR_makeSteps) (maxL := 5) (ret := (some .int)) (by decide) rfl ?_
  intro p e s m args below meth cd s₁ B hml hv
  obtain ⟨rfl, hK, hH⟩ := hv
  have hx := B.exec
  have hb := B.bytes
  have hr := B.returns
  have hts := atoms_spec (ws := wR_makeSteps) B.pre
  have hw : ∀ w ∈ gWd, w.before _ s = true := fun w h => hts w (List.mem_cons_of_mem _ h)
  have hown : s.vm.findClass RR = some m.cls := findClass_of_methodNamed B.named
  have hlk := B.notSynchronized
  have hS : va_S (gA sz) s.heap s.heap [] := va_S.rf
  have hH : gW D c sz ad k I J P LG LP s.heap := hH
  have hl := lv_entry ([.ref (ad (9, g, v)), .int (nI n), .ref (ad (6, g, 0))]) (n := 5) (Nat.le_of_ble_eq_true rfl)
  rw [lg_entry_eq]
  generalize (lg_sl ([.ref (ad (9, g, v)), .int (nI n), .ref (ad (6, g, 0))]) ++ List.replicate (5 - (lg_sl ([.ref (ad (9, g, v)), .int (nI n), .ref (ad (6, g, 0))])).length) Slot.unset).toArray = ls at hl ⊢
  have hl : lv_has ls 5 [(0, .ref (ad (9, g, v))), (1, .int (nI n)), (2, .ref (ad (6, g, 0)))] := hl
  have key : ∀ (n' i : Nat) (I' : gI), i + n' = n → pcOK I' g v → stepsN (sStep P g v) n' I' = stepsN (sStep P g v) n (iu I (pr g v) 2 0) → ∀ ls : Array Slot, lv_has ls 5 [(3, .int (nI i)), (0, .ref (ad (9, g, v))), (1, .int (nI n)), (2, .ref (ad (6, g, 0)))] → ∀ (H : Heap) (locs : List Loc), gW D c sz ad k I' J P LG LP H → va_S (gA sz) s.heap H locs → W p l e (headSpec wR_makeSteps { frames := 5, cells := 0, slots := 0, locals := 114 }).room s m ([.ref (ad (9, g, v)), .int (nI n), .ref (ad (6, g, 0))] : List Value).toArray below meth cd H locs 0 0 (MQ below (va_Qi (fun r u => r = (sMk P g v I n).1 ∧ u = (ad, k, (sMk P g v I n).2, J, P, LG, LP)) (gB D c sz) (gA sz)) ([.ref (ad (9, g, v)), .int (nI n), .ref (ad (6, g, 0))] : List Value).toArray s 0 0 (gA sz)) (F0 m 7 ls []) := by
    intro n'
    induction n' with
    | zero =>
      intro i I' hi hpc hst ls hl H locs hH hS
      refine lv_iload_n hx hb dR_makeSteps_7 rfl (lv_at hl 0 rfl) ?_
      refine lv_iload_n hx hb dR_makeSteps_8 rfl (lv_at hl 2 rfl) ?_
      refine lv_icmp_ge hx hb dR_makeSteps_9 rfl (fun h_1 => ?_) (fun h_1 => ?_)
      · skip
        refine lv_iconst (v := 0) hx hb dR_makeSteps_33 (by decide) ?_
        exact r_i hx hb hr hlk hK hH hS dR_makeSteps_34 (by unfold sMk; rw [← hst]; exact ⟨rfl, rfl⟩)
      · exact absurd (nI_le (show n ≤ i by omega) (by omega)) h_1
    | succ n' ih =>
      intro i I' hi hpc hst ls hl H locs hH hS
      refine lv_iload_n hx hb dR_makeSteps_7 rfl (lv_at hl 0 rfl) ?_
      refine lv_iload_n hx hb dR_makeSteps_8 rfl (lv_at hl 2 rfl) ?_
      refine lv_icmp_ge hx hb dR_makeSteps_9 rfl (fun h_2 => ?_) (fun h_2 => ?_)
      · exact absurd h_2 (nI_ge (show i < n by omega) (by omega))
      · skip
        refine lv_aload_n hx hb dR_makeSteps_12 rfl (lv_at hl 1 rfl) ?_
        refine lv_aload_n hx hb dR_makeSteps_13 rfl (lv_at hl 3 rfl) ?_
        refine s_ciE (va_runV (As := [.ref _]) (rest := []) ⟨hx, hb, hml, hown, hw⟩ (c_R_makeStep l  (by assumption) (by assumption) (by assumption) (hPl)) (cwV 1 hw (gd_V (gwd_4 (List.mem_of_getElem? (i := 29) rfl)) (gwd_4 (List.mem_of_getElem? (i := 30) rfl)) (gwd_9 (List.mem_of_getElem? (i := 18) rfl)) (gwd_0 (List.mem_of_getElem? (i := 5) rfl)) (gwd_4 (List.mem_of_getElem? (i := 31) rfl))) rfl rfl rfl (by decide +kernel) ⟨Nat.le_of_ble_eq_true rfl, Nat.le_of_ble_eq_true rfl⟩) (gPre.V (n := (9, _, _)) hK hH (by first | exact ⟨rfl, rfl⟩ | exact ⟨by assumption, rfl⟩ | exact ⟨by assumption, by assumption⟩ | exact ⟨by omega, rfl⟩ | exact ⟨by omega, by omega⟩ | exact ⟨by decide, rfl⟩) rfl rfl) rfl rfl hl.1 rfl (lv_room (Nat.le_of_ble_eq_true rfl)) dR_makeSteps_14 ⟨Nat.zero_le _, Nat.zero_le _⟩) hS (fun H locs hH hS => ?_)
        refine lv_istore hx hb dR_makeSteps_17 hl (by decide) rfl (fun ls hl => ?_)
        have hl : lv_has ls 5 [(4, .int _), (3, .int _), (0, .ref _), (1, .int _), (2, .ref _)] := hl
        refine lv_iload hx hb dR_makeSteps_19 (lv_at hl 0 rfl) ?_
        refine lv_if_eq hx hb dR_makeSteps_21 rfl (fun h_3 => ?_) (fun h_3 => ?_)
        · skip
          refine lv_iinc (k := 1) (v := nI (i + 1)) hx hb dR_makeSteps_27 hl rfl (by rw [nI_succ]; rfl) (by decide) rfl (fun ls hl => ?_)
          have hl : lv_has ls 5 [(3, .int _), (4, .int _), (0, .ref _), (1, .int _), (2, .ref _)] := hl
          refine lv_goto hx hb dR_makeSteps_30 rfl ?_
          exact ih (i + 1) _ (by omega) (sStep_pc hpc) (by rw [← hst]; simp [stepsN, h_3]) ls (lv_sub hl [0, 2, 3, 4] rfl) H locs hH hS
        · skip
          refine lv_iload hx hb dR_makeSteps_24 (lv_at hl 0 rfl) ?_
          exact r_i hx hb hr hlk hK hH hS dR_makeSteps_26 (by unfold sMk; rw [← hst]; simp [stepsN, h_3])
  refine lv_aload_n hx hb dR_makeSteps_0 rfl (lv_at hl 0 rfl) ?_
  refine lv_iconst (v := 0) hx hb dR_makeSteps_1 (by decide) ?_
  refine s_put hx hb hw inR tyR_ok nR hown hK hH hS 2 (by decide) (hw _ (gwd_2 (List.mem_of_getElem? (i := 7) rfl))) (by first | exact ⟨rfl, rfl⟩ | exact ⟨by assumption, rfl⟩ | exact ⟨by assumption, by assumption⟩ | exact ⟨by omega, rfl⟩ | exact ⟨by omega, by omega⟩ | exact ⟨by decide, rfl⟩) rfl rfl rfl rfl rfl rfl rfl (Nat.le_of_ble_eq_true rfl) rfl dR_makeSteps_2 (fun H locs hH hS => ?_)
  refine lv_iconst (v := 0) hx hb dR_makeSteps_5 (by decide) ?_
  refine lv_istore_n hx hb dR_makeSteps_6 rfl hl (by decide) rfl (fun ls hl => ?_)
  have hl : lv_has ls 5 [(3, .int _), (0, .ref _), (1, .int _), (2, .ref _)] := hl
  exact key n 0 _ (by omega) (by obtain ⟨t, ht, e⟩ := hpc; exact ⟨t, ht, by simp [iu_at]; exact e⟩) rfl ls (lv_sub hl [0, 1, 2, 3] rfl) H locs hH hS
