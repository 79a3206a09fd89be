set_option maxHeartbeats 4000000 in
set_option maxRecDepth 100000 in
theorem c_R_receiveAnswer (l : Launch) {D : va_G} {c : Nat → ClassId} {sz : Nat} {ad : gN → Nat} {k : Nat} {I J : gI} {P : gP} {LG : Option Nat} {LP : Option (Nat × Nat)} {g v : Nat} {x : Int32} (hg : g < k) (hv1 : v < 2) (hask : I (9, g, v) 3 = -1 ∨ ∃ a, a < 4 ∧ I (9, g, v) 3 = nI a) : Met l yR_receiveAnswer wR_receiveAnswer { frames := 0, cells := 0, slots := 0, locals := 0 } (gPre D c sz [.ref (ad (9, g, v)), .int x] (ad, k, I, J, P, LG, LP)) (va_Qv (fun u => u = (ad, k, sAns I g v x, J, P, LG, LP)) (gB D c sz) (gA sz)) 0 0 (gA sz) := by
  refine Met.ofW (cc := cR_receiveAnswer) (maxL := 2) (ret := none) (by decide) rfl ?_
  intro p e s m args below meth cd s₁ B hml hv
  obtain ⟨rfl, hK, hH⟩ := hv
  have hx := B.exec
  have hb := B.bytes
  have hr := B.returns
  have hts := atoms_spec (ws := wR_receiveAnswer) B.pre
  have hw : ∀ w ∈ gWd, w.before _ s = true := fun w h => hts w (List.mem_cons_of_mem _ h)
  have hown : s.vm.findClass RR = some m.cls := findClass_of_methodNamed B.named
  have hlk := B.notSynchronized
  have hS : va_S (gA sz) s.heap s.heap [] := va_S.rf
  have hH : gW D c sz ad k I J P LG LP s.heap := hH
  have hl := lv_entry ([.ref (ad (9, g, v)), .int x]) (n := 2) (Nat.le_of_ble_eq_true rfl)
  rw [lg_entry_eq]
  generalize (lg_sl ([.ref (ad (9, g, v)), .int x]) ++ List.replicate (2 - (lg_sl ([.ref (ad (9, g, v)), .int x])).length) Slot.unset).toArray = ls at hl ⊢
  have hl : lv_has ls 2 [(0, .ref (ad (9, g, v))), (1, .int x)] := hl
  refine lv_aload_n hx hb dR_receiveAnswer_0 rfl (lv_at hl 0 rfl) ?_
  refine s_get hx hb hw inR hown hK hH 3 (by decide) (hw _ (gwd_2 (List.mem_of_getElem? (i := 9) rfl))) (by first | exact ⟨rfl, rfl⟩ | exact ⟨by assumption, rfl⟩ | exact ⟨by assumption, by assumption⟩ | exact ⟨by omega, rfl⟩ | exact ⟨by omega, by omega⟩ | exact ⟨by decide, rfl⟩) rfl rfl rfl rfl dR_receiveAnswer_1 ?_
  refine lv_iconst (v := -1) hx hb dR_receiveAnswer_4 (by decide) ?_
  refine lv_icmp_eq hx hb dR_receiveAnswer_5 rfl (fun h_1 => ?_) (fun h_1 => ?_)
  · skip
    exact r_v hx hb hr hlk hK hH hS dR_receiveAnswer_23 (by first | (simp [sAns, h_1]; done) | (unfold sAns; rw [if_neg h_1, ea, ix_nI (show a < 2 ^ 31 by omega)]))
  · skip
    obtain ⟨a, ha, ea⟩ := hask.resolve_left h_1
    refine lv_aload_n hx hb dR_receiveAnswer_8 rfl (lv_at hl 0 rfl) ?_
    refine s_get hx hb hw inR hown hK hH 0 (by decide) (hw _ (gwd_2 (List.mem_of_getElem? (i := 5) rfl))) (by first | exact ⟨rfl, rfl⟩ | exact ⟨by assumption, rfl⟩ | exact ⟨by assumption, by assumption⟩ | exact ⟨by omega, rfl⟩ | exact ⟨by omega, by omega⟩ | exact ⟨by decide, rfl⟩) rfl rfl rfl rfl dR_receiveAnswer_9 ?_
    refine lv_aload_n hx hb dR_receiveAnswer_12 rfl (lv_at hl 0 rfl) ?_
    refine s_get hx hb hw inR hown hK hH 3 (by decide) (hw _ (gwd_2 (List.mem_of_getElem? (i := 9) rfl))) (by first | exact ⟨rfl, rfl⟩ | exact ⟨by assumption, rfl⟩ | exact ⟨by assumption, by assumption⟩ | exact ⟨by omega, rfl⟩ | exact ⟨by omega, by omega⟩ | exact ⟨by decide, rfl⟩) rfl rfl rfl rfl dR_receiveAnswer_13 ?_
    refine lv_iload_n hx hb dR_receiveAnswer_16 rfl (lv_at hl 1 rfl) ?_
    refine s_iast hx hb hK hH hS (by first | exact ⟨rfl, rfl⟩ | exact ⟨by assumption, rfl⟩ | exact ⟨by assumption, by assumption⟩ | exact ⟨by omega, rfl⟩ | exact ⟨by omega, by omega⟩ | exact ⟨by decide, rfl⟩) rfl a ea ha (by decide) rfl dR_receiveAnswer_17 (fun H locs hH hS => ?_)
    refine lv_aload_n hx hb dR_receiveAnswer_18 rfl (lv_at hl 0 rfl) ?_
    refine lv_iconst (v := -1) hx hb dR_receiveAnswer_19 (by decide) ?_
    refine s_put hx hb hw inR tyR_ok nR hown hK hH hS 3 (by decide) (hw _ (gwd_2 (List.mem_of_getElem? (i := 9) rfl))) (by first | exact ⟨rfl, rfl⟩ | exact ⟨by assumption, rfl⟩ | exact ⟨by assumption, by assumption⟩ | exact ⟨by omega, rfl⟩ | exact ⟨by omega, by omega⟩ | exact ⟨by decide, rfl⟩) rfl rfl rfl rfl rfl rfl rfl (Nat.le_of_ble_eq_true rfl) rfl dR_receiveAnswer_20 (fun H locs hH hS => ?_)
    exact r_v hx hb hr hlk hK hH hS dR_receiveAnswer_23 (by first | (simp [sAns, h_1]; done) | (unfold sAns; rw [if_neg h_1, ea, ix_nI (show a < 2 ^ 31 by omega)]))
set_option maxHeartbeats 4000000 in
set_option maxRecDepth 100000 in
theorem c_R_faultAt (l : Launch) {D : va_G} {c : Nat → ClassId} {sz : Nat} {ad : gN → Nat} {k : Nat} {I J : gI} {P : gP} {LG : Option Nat} {LP : Option (Nat × Nat)} {g v : Nat} {x : Int32} (hg : g < k) (hv1 : v < 2) : Met l yR_faultAt wR_faultAt { frames := 0, cells := 0, slots := 0, locals := 0 } (gPre D c sz [.ref (ad (9, g, v)), .int x] (ad, k, I, J, P, LG, LP)) (va_Qi (fun r u => r = 1 ∧ u = (ad, k, sFault I g v x, J, P, LG, LP)) (gB D c sz) (gA sz)) 0 0 (gA sz) := by
  refine Met.ofW (cc := cR_faultAt) (maxL := 2) (ret := (some .int)) (by decide) rfl ?_
  intro p e s m args below meth cd s₁ B hml hv
  obtain ⟨rfl, hK, hH⟩ := hv
  have hx := B.exec
  have hb := B.bytes
  have hr := B.returns
  have hts := atoms_spec (ws := wR_faultAt) B.pre
  have hw : ∀ w ∈ gWd, w.before _ s = true := fun w h => hts w (List.mem_cons_of_mem _ h)
  have hown : s.vm.findClass RR = some m.cls := findClass_of_methodNamed B.named
  have hlk := B.notSynchronized
  have hS : va_S (gA sz) s.heap s.heap [] := va_S.rf
  have hH : gW D c sz ad k I J P LG LP s.heap := hH
  have hl := lv_entry ([.ref (ad (9, g, v)), .int x]) (n := 2) (Nat.le_of_ble_eq_true rfl)
  rw [lg_entry_eq]
  generalize (lg_sl ([.ref (ad (9, g, v)), .int x]) ++ List.replicate (2 - (lg_sl ([.ref (ad (9, g, v)), .int x])).length) Slot.unset).toArray = ls at hl ⊢
  have hl : lv_has ls 2 [(0, .ref (ad (9, g, v))), (1, .int x)] := hl
  refine lv_aload_n hx hb dR_faultAt_0 rfl (lv_at hl 0 rfl) ?_
  refine lv_iload_n hx hb dR_faultAt_1 rfl (lv_at hl 1 rfl) ?_
  refine s_put hx hb hw inR tyR_ok nR hown hK hH hS 2 (by decide) (hw _ (gwd_2 (List.mem_of_getElem? (i := 7) rfl))) (by first | exact ⟨rfl, rfl⟩ | exact ⟨by assumption, rfl⟩ | exact ⟨by assumption, by assumption⟩ | exact ⟨by omega, rfl⟩ | exact ⟨by omega, by omega⟩ | exact ⟨by decide, rfl⟩) rfl rfl rfl rfl rfl rfl rfl (Nat.le_of_ble_eq_true rfl) rfl dR_faultAt_2 (fun H locs hH hS => ?_)
  refine lv_iconst (v := 1) hx hb dR_faultAt_5 (by decide) ?_
  exact r_i hx hb hr hlk hK hH hS dR_faultAt_6 (⟨rfl, rfl⟩)
set_option maxHeartbeats 4000000 in
set_option maxRecDepth 100000 in
theorem c_R_moveWord (l : Launch) {D : va_G} {c : Nat → ClassId} {sz : Nat} {ad : gN → Nat} {k : Nat} {I J : gI} {P : gP} {LG : Option Nat} {LP : Option (Nat × Nat)} {g v a t : Nat} (b : Prop) [Decidable b] {x : Int32} (hg : g < k) (hv1 : v < 2) (ha : a < 4) (ht : t < 256) (hxb : x = bz b) (hPl : ∀ g a q, P g a = some q → q < 24) : Met l yR_moveWord wR_moveWord { frames := 1, cells := 0, slots := 0, locals := 21 } (gPre D c sz [.ref (ad (9, g, v)), .int x, .int (nI a), .int (nI t), .ref (ad (6, g, 0))] (ad, k, I, J, P, LG, LP)) (va_Qi (fun r u => r = (sMove I P g v b a t).1 ∧ u = (ad, k, (sMove I P g v b a t).2, J, P, LG, LP)) (gB D c sz) (gA sz)) 0 0 (gA sz) := by
  refine Met.ofW (cc := cR_moveWord) (maxL := 6) (ret := (some .int)) (by decide) rfl ?_
  intro p e s m args below meth cd s₁ B hml hv
  obtain ⟨rfl, hK, hH⟩ := hv
  have hx := B.exec
  have hb := B.bytes
  have hr := B.returns
  have hts := atoms_spec (ws := wR_moveWord) B.pre
  have hw : ∀ w ∈ gWd, w.before _ s = true := fun w h => hts w (List.mem_cons_of_mem _ h)
  have hown : s.vm.findClass RR = some m.cls := findClass_of_methodNamed B.named
  have hlk := B.notSynchronized
  have hS : va_S (gA sz) s.heap s.heap [] := va_S.rf
  have hH : gW D c sz ad k I J P LG LP s.heap := hH
  have hl := lv_entry ([.ref (ad (9, g, v)), .int x, .int (nI a), .int (nI t), .ref (ad (6, g, 0))]) (n := 6) (Nat.le_of_ble_eq_true rfl)
  rw [lg_entry_eq]
  generalize (lg_sl ([.ref (ad (9, g, v)), .int x, .int (nI a), .int (nI t), .ref (ad (6, g, 0))]) ++ List.replicate (6 - (lg_sl ([.ref (ad (9, g, v)), .int x, .int (nI a), .int (nI t), .ref (ad (6, g, 0))])).length) Slot.unset).toArray = ls at hl ⊢
  have hl : lv_has ls 6 [(0, .ref (ad (9, g, v))), (1, .int x), (2, .int (nI a)), (3, .int (nI t)), (4, .ref (ad (6, g, 0)))] := hl
  have erem : nI t - nI t / 4 * 4 = nI (t % 4) := pk_rem (d := 4) (by omega) (by decide) (by decide)
  refine lv_aload hx hb dR_moveWord_0 (lv_at hl 4 rfl) ?_
  refine lv_iload_n hx hb dR_moveWord_2 rfl (lv_at hl 3 rfl) ?_
  refine s_cqE (va_runV (As := [.int _]) (rest := []) ⟨hx, hb, hml, hown, hw⟩ (c_G_pageAtAddress l  (by assumption) (by first | assumption | omega) (hPl)) (cwV 1 hw (gd_V (gwd_4 (List.mem_of_getElem? (i := 32) rfl)) (gwd_4 (List.mem_of_getElem? (i := 33) rfl)) (gwd_4 (List.mem_of_getElem? (i := 34) rfl)) (gwd_0 (List.mem_of_getElem? (i := 4) rfl)) (gwd_4 (List.mem_of_getElem? (i := 35) rfl))) rfl rfl rfl (by decide +kernel) ⟨Nat.le_of_ble_eq_true rfl, Nat.le_of_ble_eq_true rfl⟩) (gPre.V (n := (6, _, 0)) hK hH (by first | exact ⟨rfl, rfl⟩ | exact ⟨by assumption, rfl⟩ | exact ⟨by assumption, by assumption⟩ | exact ⟨by omega, rfl⟩ | exact ⟨by omega, by omega⟩ | exact ⟨by decide, rfl⟩) rfl rfl) rfl rfl hl.1 rfl (lv_room (Nat.le_of_ble_eq_true rfl)) dR_moveWord_3 ⟨Nat.zero_le _, Nat.zero_le _⟩) hS (fun H locs h_1 hH hS => ?_) (fun H locs g_2 h_1 hH hS => ?_)
  · skip
    refine lv_astoreN hx hb dR_moveWord_6 hl (by decide) rfl (fun ls hl => ?_)
    have hl : lv_has ls 6 [(5, .null), (0, .ref _), (1, .int _), (2, .int _), (3, .int _), (4, .ref _)] := hl
    refine lv_aloadN hx hb dR_moveWord_8 (lv_at hl 0 rfl) ?_
    refine lv_ifnonnullN hx hb dR_moveWord_10 ?_
    refine lv_aload_n hx hb dR_moveWord_13 rfl (lv_at hl 1 rfl) ?_
    refine lv_iload_n hx hb dR_moveWord_14 rfl (lv_at hl 4 rfl) ?_
    refine s_ciE (va_runV (As := [.int _]) (rest := []) ⟨hx, hb, hml, hown, hw⟩ (c_R_faultAt l  (by assumption) (by assumption)) (cwV 1 hw (gd_V (gwd_4 (List.mem_of_getElem? (i := 36) rfl)) (gwd_4 (List.mem_of_getElem? (i := 37) rfl)) (gwd_9 (List.mem_of_getElem? (i := 19) rfl)) (gwd_0 (List.mem_of_getElem? (i := 5) rfl)) (gwd_4 (List.mem_of_getElem? (i := 38) rfl))) rfl rfl rfl (by decide +kernel) ⟨Nat.le_of_ble_eq_true rfl, Nat.le_of_ble_eq_true rfl⟩) (gPre.V (n := (9, _, _)) hK hH (by first | exact ⟨rfl, rfl⟩ | exact ⟨by assumption, rfl⟩ | exact ⟨by assumption, by assumption⟩ | exact ⟨by omega, rfl⟩ | exact ⟨by omega, by omega⟩ | exact ⟨by decide, rfl⟩) rfl rfl) rfl rfl hl.1 rfl (lv_room (Nat.le_of_ble_eq_true rfl)) dR_moveWord_15 ⟨Nat.zero_le _, Nat.zero_le _⟩) hS (fun H locs hH hS => ?_)
    exact r_i hx hb hr hlk hK hH hS dR_moveWord_18 (by first | (simp [sMove, h_1]; done) | (simp [sMove, h_1, hyb]; done) | (simp [sMove, h_1, hnb]; done))
  · skip
    have hlt_g_2 : g_2 < 24 := hPl _ _ _ h_1
    refine lv_astore hx hb dR_moveWord_6 hl (by decide) rfl (fun ls hl => ?_)
    have hl : lv_has ls 6 [(5, .ref _), (0, .ref _), (1, .int _), (2, .int _), (3, .int _), (4, .ref _)] := hl
    refine lv_aload hx hb dR_moveWord_8 (lv_at hl 0 rfl) ?_
    refine lv_ifnonnull hx hb dR_moveWord_10 rfl ?_
    refine lv_iload_n hx hb dR_moveWord_19 rfl (lv_at hl 2 rfl) ?_
    refine lv_if_eq hx hb dR_moveWord_20 rfl (fun h_3 => ?_) (fun h_3 => ?_)
    · skip
      have hnb : ¬ b := bz_0.mp (hxb ▸ h_3)
      refine lv_aload hx hb dR_moveWord_41 (lv_at hl 0 rfl) ?_
      refine s_get hx hb hw inP hown hK hH 0 (by decide) (hw _ (gwd_0 (List.mem_of_getElem? (i := 21) rfl))) (by first | exact ⟨rfl, rfl⟩ | exact ⟨by assumption, rfl⟩ | exact ⟨by assumption, by assumption⟩ | exact ⟨by omega, rfl⟩ | exact ⟨by omega, by omega⟩ | exact ⟨by decide, rfl⟩) rfl rfl rfl rfl dR_moveWord_43 ?_
      refine lv_iload_n hx hb dR_moveWord_46 rfl (lv_at hl 4 rfl) ?_
      refine lv_iconst (v := 4) hx hb dR_moveWord_47 (by decide) ?_
      refine lv_irem hx hb dR_moveWord_48 (by decide) ?_
      rw [erem]
      refine lv_aload_n hx hb dR_moveWord_49 rfl (lv_at hl 1 rfl) ?_
      refine s_get hx hb hw inR hown hK hH 0 (by decide) (hw _ (gwd_2 (List.mem_of_getElem? (i := 5) rfl))) (by first | exact ⟨rfl, rfl⟩ | exact ⟨by assumption, rfl⟩ | exact ⟨by assumption, by assumption⟩ | exact ⟨by omega, rfl⟩ | exact ⟨by omega, by omega⟩ | exact ⟨by decide, rfl⟩) rfl rfl rfl rfl dR_moveWord_50 ?_
      refine lv_iload_n hx hb dR_moveWord_53 rfl (lv_at hl 3 rfl) ?_
      refine s_iald hx hb hK hH (by first | exact ⟨rfl, rfl⟩ | exact ⟨by assumption, rfl⟩ | exact ⟨by assumption, by assumption⟩ | exact ⟨by omega, rfl⟩ | exact ⟨by omega, by omega⟩ | exact ⟨by decide, rfl⟩) rfl _ (by first | rfl | assumption) (by first | assumption | decide | omega) (by decide) dR_moveWord_54 ?_
      refine s_iast hx hb hK hH hS (by first | exact ⟨rfl, rfl⟩ | exact ⟨by assumption, rfl⟩ | exact ⟨by assumption, by assumption⟩ | exact ⟨by omega, rfl⟩ | exact ⟨by omega, by omega⟩ | exact ⟨by decide, rfl⟩) rfl _ (by first | rfl | assumption) (by omega) (by decide) rfl dR_moveWord_55 (fun H locs hH hS => ?_)
      refine lv_iconst (v := 0) hx hb dR_moveWord_56 (by decide) ?_
      exact r_i hx hb hr hlk hK hH hS dR_moveWord_57 (by first | (simp [sMove, h_1, h_3]; done) | (simp [sMove, h_1, h_3, hyb]; done) | (simp [sMove, h_1, h_3, hnb]; done))
    · skip
      have hyb : b := by by_cases z : b; exact z; exact absurd (hxb.trans (bz_f z)) h_3
      refine lv_aload_n hx hb dR_moveWord_23 rfl (lv_at hl 1 rfl) ?_
      refine s_get hx hb hw inR hown hK hH 0 (by decide) (hw _ (gwd_2 (List.mem_of_getElem? (i := 5) rfl))) (by first | exact ⟨rfl, rfl⟩ | exact ⟨by assumption, rfl⟩ | exact ⟨by assumption, by assumption⟩ | exact ⟨by omega, rfl⟩ | exact ⟨by omega, by omega⟩ | exact ⟨by decide, rfl⟩) rfl rfl rfl rfl dR_moveWord_24 ?_
      refine lv_iload_n hx hb dR_moveWord_27 rfl (lv_at hl 3 rfl) ?_
      refine lv_aload hx hb dR_moveWord_28 (lv_at hl 0 rfl) ?_
      refine s_get hx hb hw inP hown hK hH 0 (by decide) (hw _ (gwd_0 (List.mem_of_getElem? (i := 21) rfl))) (by first | exact ⟨rfl, rfl⟩ | exact ⟨by assumption, rfl⟩ | exact ⟨by assumption, by assumption⟩ | exact ⟨by omega, rfl⟩ | exact ⟨by omega, by omega⟩ | exact ⟨by decide, rfl⟩) rfl rfl rfl rfl dR_moveWord_30 ?_
      refine lv_iload_n hx hb dR_moveWord_33 rfl (lv_at hl 4 rfl) ?_
      refine lv_iconst (v := 4) hx hb dR_moveWord_34 (by decide) ?_
      refine lv_irem hx hb dR_moveWord_35 (by decide) ?_
      rw [erem]
      refine s_iald hx hb hK hH (by first | exact ⟨rfl, rfl⟩ | exact ⟨by assumption, rfl⟩ | exact ⟨by assumption, by assumption⟩ | exact ⟨by omega, rfl⟩ | exact ⟨by omega, by omega⟩ | exact ⟨by decide, rfl⟩) rfl _ (by first | rfl | assumption) (by omega) (by decide) dR_moveWord_36 ?_
      refine s_iast hx hb hK hH hS (by first | exact ⟨rfl, rfl⟩ | exact ⟨by assumption, rfl⟩ | exact ⟨by assumption, by assumption⟩ | exact ⟨by omega, rfl⟩ | exact ⟨by omega, by omega⟩ | exact ⟨by decide, rfl⟩) rfl _ (by first | rfl | assumption) (by first | assumption | decide | omega) (by decide) rfl dR_moveWord_37 (fun H locs hH hS => ?_)
      refine lv_goto hx hb dR_moveWord_38 rfl ?_
      refine lv_iconst (v := 0) hx hb dR_moveWord_56 (by decide) ?_
      exact r_i hx hb hr hlk hK hH hS dR_moveWord_57 (by first | (simp [sMove, h_1, h_3]; done) | (simp [sMove, h_1, h_3, hyb]; done) | (simp [sMove, h_1, h_3, hnb]; done))
theorem sMove_01 {I : gI} {P : gP} {g v : Nat} {b : Prop} [Decidable b] {a t : Nat} : (sMove I P g v b a t).1 = 1 ∨ (sMove I P g v b a t).1 = 0 := by
  unfold sMove
  split
  · exact Or.inl rfl
  · split <;> exact Or.inr rfl
theorem sPerf_mv {I : gI} {P : gP} {g v : Nat} {w : Int32} (h : w &&& 15 = 3 ∨ w &&& 15 = 4) : sPerf I P g v w = (if (sMove I P g v (w &&& 15 = 3) (wA w) (ix ((I (rg g v) (wB w) + wI w) &&& 255))).1 = 1 then sMove I P g v (w &&& 15 = 3) (wA w) (ix ((I (rg g v) (wB w) + wI w) &&& 255)) else (0, iu (sMove I P g v (w &&& 15 = 3) (wA w) (ix ((I (rg g v) (wB w) + wI w) &&& 255))).2 (pr g v) 1 (sNext I g v))) := by
  have h0 : ¬ w &&& 15 = 0 := by rcases h with h | h <;> rw [h] <;> decide
  have h1 : ¬ w &&& 15 = 1 := by rcases h with h | h <;> rw [h] <;> decide
  have h2 : ¬ w &&& 15 = 2 := by rcases h with h | h <;> rw [h] <;> decide
  unfold sPerf
  rw [if_neg h0, if_neg h1, if_neg h2, if_pos h]
theorem sPerf_bad {I : gI} {P : gP} {g v : Nat} {w : Int32} (h : ∀ n : Nat, n < 11 → ¬ w &&& 15 = nI n) : sPerf I P g v w = (5, I) := by
  have h0 : ¬ w &&& 15 = 0 := h 0 (by omega)
  have h1 : ¬ w &&& 15 = 1 := h 1 (by omega)
  have h2 : ¬ w &&& 15 = 2 := h 2 (by omega)
  have h3 : ¬ w &&& 15 = 3 := h 3 (by omega)
  have h4 : ¬ w &&& 15 = 4 := h 4 (by omega)
  have h5 : ¬ w &&& 15 = 5 := h 5 (by omega)
  have h6 : ¬ w &&& 15 = 6 := h 6 (by omega)
  have h7 : ¬ w &&& 15 = 7 := h 7 (by omega)
  have h8 : ¬ w &&& 15 = 8 := h 8 (by omega)
  have h9 : ¬ w &&& 15 = 9 := h 9 (by omega)
  have h10 : ¬ w &&& 15 = 10 := h 10 (by omega)
  unfold sPerf
  rw [if_neg h0, if_neg h1, if_neg h2, if_neg (fun q => q.elim h3 h4), if_neg h5, if_neg (fun q => q.elim h6 h7), if_neg h8, if_neg h9, if_neg h10]
theorem sChg_01 {I : gI} {P : gP} {g a : Nat} {x : Int32} : (sChg I P g a x).1 = 0 ∨ (sChg I P g a x).1 = 1 := by
  unfold sChg
  split
  · exact Or.inl rfl
  · split
    · exact Or.inl rfl
    · exact Or.inr rfl
set_option maxHeartbeats 4000000 in
set_option maxRecDepth 100000 in
theorem c_R_perform (l : Launch) {D : va_G} {c : Nat → ClassId} {sz : Nat} {ad : gN → Nat} {k : Nat} {I J : gI} {P : gP} {LG : Option Nat} {LP : Option (Nat × Nat)} {g v : Nat} {w : Int32} (hg : g < k) (hv1 : v < 2) (hPl : ∀ g a q, P g a = some q → q < 24) : Met l yR_perform wR_perform { frames := 3, cells := 0, slots := 0, locals := 64 } (gPre D c sz [.ref (ad (9, g, v)), .int w, .ref (ad (6, g, 0))] (ad, k, I, J, P, LG, LP)) (va_Qi (fun r u => r = (sPerf I P g v w).1 ∧ u = (ad, k, (sPerf I P g v w).2, J, P, LG, LP)) (gB D c sz) (gA sz)) 0 0 (gA sz) := by
  refine Met.ofW (cc := cR_perform) (maxL := 9) (ret := (some .int)) (by decide) rfl ?_
  intro p e s m args below meth cd s₁ B hml hv
  obtain ⟨rfl, hK, hH⟩ := hv
  have hx := B.exec
  have hb := B.bytes
  have hr := B.returns
  have hts := atoms_spec (ws := wR_perform) B.pre
  have hw : ∀ w ∈ gWd, w.before _ s = true := fun w h => hts w (List.mem_cons_of_mem _ h)
  have hown : s.vm.findClass RR = some m.cls := findClass_of_methodNamed B.named
  have hlk := B.notSynchronized
  have hS : va_S (gA sz) s.heap s.heap [] := va_S.rf
  have hH : gW D c sz ad k I J P LG LP s.heap := hH
  have hl := lv_entry ([.ref (ad (9, g, v)), .int w, .ref (ad (6, g, 0))]) (n := 9) (Nat.le_of_ble_eq_true rfl)
  rw [lg_entry_eq]
  generalize (lg_sl ([.ref (ad (9, g, v)), .int w, .ref (ad (6, g, 0))]) ++ List.replicate (9 - (lg_sl ([.ref (ad (9, g, v)), .int w, .ref (ad (6, g, 0))])).length) Slot.unset).toArray = ls at hl ⊢
  have hl : lv_has ls 9 [(0, .ref (ad (9, g, v))), (1, .int w), (2, .ref (ad (6, g, 0)))] := hl
  obtain ⟨o, ho, eo⟩ := pk_andE (m := 15) w 4 (by decide)
  obtain ⟨a, ha, ea⟩ := pk_andE (m := 3) (w >>> ((4 : Int32) &&& 31)) 2 (by decide)
  obtain ⟨b, hbb, eb⟩ := pk_andE (m := 3) (w >>> ((6 : Int32) &&& 31)) 2 (by decide)
  have hA : ix (w >>> ((4 : Int32) &&& 31) &&& 3) = a := by rw [ea]; exact nI_clamp (by omega)
  have hB : ix (w >>> ((6 : Int32) &&& 31) &&& 3) = b := by rw [eb]; exact nI_clamp (by omega)
  have ho : o < 16 := ho
  have ha : a < 4 := ha
  have hbb : b < 4 := hbb
  have hbg : 10 < o → ∀ n : Nat, n < 11 → ¬ w &&& 15 = nI n := fun h n hn q => by have := n32 (by omega) (by omega) (eo.symm.trans q); omega
  refine lv_iload_n hx hb dR_perform_0 rfl (lv_at hl 1 rfl) ?_
  refine lv_bipush (v := 15) hx hb dR_perform_1 (by decide) ?_
  refine lv_iand hx hb dR_perform_3 ?_
  rw [eo]
  refine lv_istore_n hx hb dR_perform_4 rfl hl (by decide) rfl (fun ls hl => ?_)
  have hl : lv_has ls 9 [(3, .int _), (0, .ref _), (1, .int _), (2, .ref _)] := hl
  refine lv_iload_n hx hb dR_perform_5 rfl (lv_at hl 2 rfl) ?_
  refine lv_iconst (v := 4) hx hb dR_perform_6 (by decide) ?_
  refine lv_ishr hx hb dR_perform_7 ?_
  refine lv_iconst (v := 3) hx hb dR_perform_8 (by decide) ?_
  refine lv_iand hx hb dR_perform_9 ?_
  rw [ea]
  refine lv_istore hx hb dR_perform_10 hl (by decide) rfl (fun ls hl => ?_)
  have hl : lv_has ls 9 [(4, .int _), (3, .int _), (0, .ref _), (1, .int _), (2, .ref _)] := hl
  refine lv_iload_n hx hb dR_perform_12 rfl (lv_at hl 3 rfl) ?_
  refine lv_bipush (v := 6) hx hb dR_perform_13 (by decide) ?_
  refine lv_ishr hx hb dR_perform_15 ?_
  refine lv_iconst (v := 3) hx hb dR_perform_16 (by decide) ?_
  refine lv_iand hx hb dR_perform_17 ?_
  rw [eb]
  refine lv_istore hx hb dR_perform_18 hl (by decide) rfl (fun ls hl => ?_)
  have hl : lv_has ls 9 [(5, .int _), (4, .int _), (3, .int _), (0, .ref _), (1, .int _), (2, .ref _)] := hl
  refine lv_iload_n hx hb dR_perform_20 rfl (lv_at hl 4 rfl) ?_
  refine lv_bipush (v := 8) hx hb dR_perform_21 (by decide) ?_
  refine lv_ishr hx hb dR_perform_23 ?_
  refine lv_istore hx hb dR_perform_24 hl (by decide) rfl (fun ls hl => ?_)
  have hl : lv_has ls 9 [(6, .int _), (5, .int _), (4, .int _), (3, .int _), (0, .ref _), (1, .int _), (2, .ref _)] := hl
  refine lv_aload_n hx hb dR_perform_26 rfl (lv_at hl 4 rfl) ?_
  refine s_get hx hb hw inR hown hK hH 1 (by decide) (hw _ (gwd_2 (List.mem_of_getElem? (i := 6) rfl))) (by first | exact ⟨rfl, rfl⟩ | exact ⟨by assumption, rfl⟩ | exact ⟨by assumption, by assumption⟩ | exact ⟨by omega, rfl⟩ | exact ⟨by omega, by omega⟩ | exact ⟨by decide, rfl⟩) rfl rfl rfl rfl dR_perform_27 ?_
  refine lv_iconst (v := 1) hx hb dR_perform_30 (by decide) ?_
  refine lv_iadd hx hb dR_perform_31 ?_
  refine lv_sipush (v := 255) hx hb dR_perform_32 (by decide) ?_
  refine lv_iand hx hb dR_perform_35 ?_
  refine lv_istore hx hb dR_perform_36 hl (by decide) rfl (fun ls hl => ?_)
  have hl : lv_has ls 9 [(7, .int _), (6, .int _), (5, .int _), (4, .int _), (3, .int _), (0, .ref _), (1, .int _), (2, .ref _)] := hl
  refine lv_iconst (v := 0) hx hb dR_perform_38 (by decide) ?_
  refine lv_istore hx hb dR_perform_39 hl (by decide) rfl (fun ls hl => ?_)
  have hl : lv_has ls 9 [(8, .int _), (7, .int _), (6, .int _), (5, .int _), (4, .int _), (3, .int _), (0, .ref _), (1, .int _), (2, .ref _)] := hl
  refine lv_iload_n hx hb dR_perform_41 rfl (lv_at hl 5 rfl) ?_
  rcases (show o = 0 ∨ o = 1 ∨ o = 2 ∨ o = 3 ∨ o = 4 ∨ o = 5 ∨ o = 6 ∨ o = 7 ∨ o = 8 ∨ o = 9 ∨ o = 10 ∨ 10 < o by omega) with rfl | rfl | rfl | rfl | rfl | rfl | rfl | rfl | rfl | rfl | rfl | hbig
  · have eo : w &&& 15 = 0 := eo
    refine lv_tableIn (off := 58) (tgt := 100) hx hb dR_perform_42 (by decide) (by decide) (by decide) (by decide) ?_
    refine lv_iconst (v := 4) hx hb dR_perform_100 (by decide) ?_
    refine lv_istore hx hb dR_perform_101 hl (by decide) rfl (fun ls hl => ?_)
    have hl : lv_has ls 9 [(8, .int _), (7, .int _), (6, .int _), (5, .int _), (4, .int _), (3, .int _), (0, .ref _), (1, .int _), (2, .ref _)] := hl
    refine lv_goto hx hb dR_perform_103 rfl ?_
    refine lv_iload hx hb dR_perform_295 (lv_at hl 0 rfl) ?_
    refine lv_iconst (v := 1) hx hb dR_perform_297 (by decide) ?_
    refine lv_icmp_eq hx hb dR_perform_298 rfl (fun h_1 => ?_) (fun h_1 => ?_)
    · exact absurd h_1 (by decide)
    · skip
      refine lv_iload hx hb dR_perform_301 (lv_at hl 0 rfl) ?_
      refine lv_iconst (v := 5) hx hb dR_perform_303 (by decide) ?_
      refine lv_icmp_eq hx hb dR_perform_304 rfl (fun h_2 => ?_) (fun h_2 => ?_)
      · exact absurd h_2 (by decide)
      · skip
        refine lv_aload_n hx hb dR_perform_307 rfl (lv_at hl 6 rfl) ?_
        refine lv_iload hx hb dR_perform_308 (lv_at hl 1 rfl) ?_
        refine s_put hx hb hw inR tyR_ok nR hown hK hH hS 1 (by decide) (hw _ (gwd_2 (List.mem_of_getElem? (i := 6) rfl))) (by first | exact ⟨rfl, rfl⟩ | exact ⟨by assumption, rfl⟩ | exact ⟨by assumption, by assumption⟩ | exact ⟨by omega, rfl⟩ | exact ⟨by omega, by omega⟩ | exact ⟨by decide, rfl⟩) rfl rfl rfl rfl rfl rfl rfl (Nat.le_of_ble_eq_true rfl) rfl dR_perform_310 (fun H locs hH hS => ?_)
        refine lv_iload hx hb dR_perform_313 (lv_at hl 0 rfl) ?_
        exact r_i hx hb hr hlk hK hH hS dR_perform_315 (by simp [sPerf, eo, hA, hB, bz])
  · have eo : w &&& 15 = 1 := eo
    refine lv_tableIn (off := 64) (tgt := 106) hx hb dR_perform_42 (by decide) (by decide) (by decide) (by decide) ?_
    refine lv_aload_n hx hb dR_perform_106 rfl (lv_at hl 6 rfl) ?_
    refine s_get hx hb hw inR hown hK hH 0 (by decide) (hw _ (gwd_2 (List.mem_of_getElem? (i := 5) rfl))) (by first | exact ⟨rfl, rfl⟩ | exact ⟨by assumption, rfl⟩ | exact ⟨by assumption, by assumption⟩ | exact ⟨by omega, rfl⟩ | exact ⟨by omega, by omega⟩ | exact ⟨by decide, rfl⟩) rfl rfl rfl rfl dR_perform_107 ?_
    refine lv_iload hx hb dR_perform_110 (lv_at hl 4 rfl) ?_
    refine lv_iload hx hb dR_perform_112 (lv_at hl 2 rfl) ?_
    refine s_iast hx hb hK hH hS (by first | exact ⟨rfl, rfl⟩ | exact ⟨by assumption, rfl⟩ | exact ⟨by assumption, by assumption⟩ | exact ⟨by omega, rfl⟩ | exact ⟨by omega, by omega⟩ | exact ⟨by decide, rfl⟩) rfl _ (by first | rfl | assumption) (by first | assumption | decide | omega) (by decide) rfl dR_perform_114 (fun H locs hH hS => ?_)
    refine lv_goto hx hb dR_perform_115 rfl ?_
    refine lv_iload hx hb dR_perform_295 (lv_at hl 0 rfl) ?_
    refine lv_iconst (v := 1) hx hb dR_perform_297 (by decide) ?_
    refine lv_icmp_eq hx hb dR_perform_298 rfl (fun h_3 => ?_) (fun h_3 => ?_)
    · exact absurd h_3 (by decide)
    · skip
      refine lv_iload hx hb dR_perform_301 (lv_at hl 0 rfl) ?_
      refine lv_iconst (v := 5) hx hb dR_perform_303 (by decide) ?_
      refine lv_icmp_eq hx hb dR_perform_304 rfl (fun h_4 => ?_) (fun h_4 => ?_)
      · exact absurd h_4 (by decide)
      · skip
        refine lv_aload_n hx hb dR_perform_307 rfl (lv_at hl 6 rfl) ?_
        refine lv_iload hx hb dR_perform_308 (lv_at hl 1 rfl) ?_
        refine s_put hx hb hw inR tyR_ok nR hown hK hH hS 1 (by decide) (hw _ (gwd_2 (List.mem_of_getElem? (i := 6) rfl))) (by first | exact ⟨rfl, rfl⟩ | exact ⟨by assumption, rfl⟩ | exact ⟨by assumption, by assumption⟩ | exact ⟨by omega, rfl⟩ | exact ⟨by omega, by omega⟩ | exact ⟨by decide, rfl⟩) rfl rfl rfl rfl rfl rfl rfl (Nat.le_of_ble_eq_true rfl) rfl dR_perform_310 (fun H locs hH hS => ?_)
        refine lv_iload hx hb dR_perform_313 (lv_at hl 0 rfl) ?_
        exact r_i hx hb hr hlk hK hH hS dR_perform_315 (by simp [sPerf, eo, hA, hB, bz])
  · have eo : w &&& 15 = 2 := eo
    refine lv_tableIn (off := 76) (tgt := 118) hx hb dR_perform_42 (by decide) (by decide) (by decide) (by decide) ?_
    refine lv_aload_n hx hb dR_perform_118 rfl (lv_at hl 6 rfl) ?_
    refine s_get hx hb hw inR hown hK hH 0 (by decide) (hw _ (gwd_2 (List.mem_of_getElem? (i := 5) rfl))) (by first | exact ⟨rfl, rfl⟩ | exact ⟨by assumption, rfl⟩ | exact ⟨by assumption, by assumption⟩ | exact ⟨by omega, rfl⟩ | exact ⟨by omega, by omega⟩ | exact ⟨by decide, rfl⟩) rfl rfl rfl rfl dR_perform_119 ?_
    refine lv_iload hx hb dR_perform_122 (lv_at hl 4 rfl) ?_
    refine lv_dup2_11 hx hb dR_perform_124 rfl rfl ?_
    refine s_iald hx hb hK hH (by first | exact ⟨rfl, rfl⟩ | exact ⟨by assumption, rfl⟩ | exact ⟨by assumption, by assumption⟩ | exact ⟨by omega, rfl⟩ | exact ⟨by omega, by omega⟩ | exact ⟨by decide, rfl⟩) rfl _ (by first | rfl | assumption) (by first | assumption | decide | omega) (by decide) dR_perform_125 ?_
    refine lv_aload_n hx hb dR_perform_126 rfl (lv_at hl 6 rfl) ?_
    refine s_get hx hb hw inR hown hK hH 0 (by decide) (hw _ (gwd_2 (List.mem_of_getElem? (i := 5) rfl))) (by first | exact ⟨rfl, rfl⟩ | exact ⟨by assumption, rfl⟩ | exact ⟨by assumption, by assumption⟩ | exact ⟨by omega, rfl⟩ | exact ⟨by omega, by omega⟩ | exact ⟨by decide, rfl⟩) rfl rfl rfl rfl dR_perform_127 ?_
    refine lv_iload hx hb dR_perform_130 (lv_at hl 3 rfl) ?_
    refine s_iald hx hb hK hH (by first | exact ⟨rfl, rfl⟩ | exact ⟨by assumption, rfl⟩ | exact ⟨by assumption, by assumption⟩ | exact ⟨by omega, rfl⟩ | exact ⟨by omega, by omega⟩ | exact ⟨by decide, rfl⟩) rfl _ (by first | rfl | assumption) (by first | assumption | decide | omega) (by decide) dR_perform_132 ?_
    refine lv_iadd hx hb dR_perform_133 ?_
    refine s_iast hx hb hK hH hS (by first | exact ⟨rfl, rfl⟩ | exact ⟨by assumption, rfl⟩ | exact ⟨by assumption, by assumption⟩ | exact ⟨by omega, rfl⟩ | exact ⟨by omega, by omega⟩ | exact ⟨by decide, rfl⟩) rfl _ (by first | rfl | assumption) (by first | assumption | decide | omega) (by decide) rfl dR_perform_134 (fun H locs hH hS => ?_)
    refine lv_goto hx hb dR_perform_135 rfl ?_
    refine lv_iload hx hb dR_perform_295 (lv_at hl 0 rfl) ?_
    refine lv_iconst (v := 1) hx hb dR_perform_297 (by decide) ?_
    refine lv_icmp_eq hx hb dR_perform_298 rfl (fun h_5 => ?_) (fun h_5 => ?_)
    · exact absurd h_5 (by decide)
    · skip
      refine lv_iload hx hb dR_perform_301 (lv_at hl 0 rfl) ?_
      refine lv_iconst (v := 5) hx hb dR_perform_303 (by decide) ?_
      refine lv_icmp_eq hx hb dR_perform_304 rfl (fun h_6 => ?_) (fun h_6 => ?_)
      · exact absurd h_6 (by decide)
      · skip
        refine lv_aload_n hx hb dR_perform_307 rfl (lv_at hl 6 rfl) ?_
        refine lv_iload hx hb dR_perform_308 (lv_at hl 1 rfl) ?_
        refine s_put hx hb hw inR tyR_ok nR hown hK hH hS 1 (by decide) (hw _ (gwd_2 (List.mem_of_getElem? (i := 6) rfl))) (by first | exact ⟨rfl, rfl⟩ | exact ⟨by assumption, rfl⟩ | exact ⟨by assumption, by assumption⟩ | exact ⟨by omega, rfl⟩ | exact ⟨by omega, by omega⟩ | exact ⟨by decide, rfl⟩) rfl rfl rfl rfl rfl rfl rfl (Nat.le_of_ble_eq_true rfl) rfl dR_perform_310 (fun H locs hH hS => ?_)
        refine lv_iload hx hb dR_perform_313 (lv_at hl 0 rfl) ?_
        exact r_i hx hb hr hlk hK hH hS dR_perform_315 (by simp [sPerf, eo, hA, hB, bz])
  · have eo : w &&& 15 = 3 := eo
    refine lv_tableIn (off := 96) (tgt := 138) hx hb dR_perform_42 (by decide) (by decide) (by decide) (by decide) ?_
    obtain ⟨t, ht, et⟩ := pk_andE (m := 255) (I (10, g, v) b + w >>> ((8 : Int32) &&& 31)) 8 (by decide)
    have hT : ix (nI t) = t := nI_clamp (by omega)
    have ht : t < 256 := ht
    refine lv_aload_n hx hb dR_perform_138 rfl (lv_at hl 6 rfl) ?_
    refine lv_iload_n hx hb dR_perform_139 rfl (lv_at hl 5 rfl) ?_
    refine lv_iconst (v := 3) hx hb dR_perform_140 (by decide) ?_
    refine lv_icmp_ne hx hb dR_perform_141 rfl (fun h_7 => ?_) (fun h_7 => ?_)
    · exact absurd h_7 (by decide)
    · skip
      refine lv_iconst (v := 1) hx hb dR_perform_144 (by decide) ?_
      refine lv_goto hx hb dR_perform_145 rfl ?_
      refine lv_iload hx hb dR_perform_149 (lv_at hl 4 rfl) ?_
      refine lv_aload_n hx hb dR_perform_151 rfl (lv_at hl 6 rfl) ?_
      refine s_get hx hb hw inR hown hK hH 0 (by decide) (hw _ (gwd_2 (List.mem_of_getElem? (i := 5) rfl))) (by first | exact ⟨rfl, rfl⟩ | exact ⟨by assumption, rfl⟩ | exact ⟨by assumption, by assumption⟩ | exact ⟨by omega, rfl⟩ | exact ⟨by omega, by omega⟩ | exact ⟨by decide, rfl⟩) rfl rfl rfl rfl dR_perform_152 ?_
      refine lv_iload hx hb dR_perform_155 (lv_at hl 3 rfl) ?_
      refine s_iald hx hb hK hH (by first | exact ⟨rfl, rfl⟩ | exact ⟨by assumption, rfl⟩ | exact ⟨by assumption, by assumption⟩ | exact ⟨by omega, rfl⟩ | exact ⟨by omega, by omega⟩ | exact ⟨by decide, rfl⟩) rfl _ (by first | rfl | assumption) (by first | assumption | decide | omega) (by decide) dR_perform_157 ?_
      refine lv_iload hx hb dR_perform_158 (lv_at hl 2 rfl) ?_
      refine lv_iadd hx hb dR_perform_160 ?_
      refine lv_sipush (v := 255) hx hb dR_perform_161 (by decide) ?_
      refine lv_iand hx hb dR_perform_164 ?_
      rw [et]
      refine lv_aload_n hx hb dR_perform_165 rfl (lv_at hl 8 rfl) ?_
      refine s_ciE (va_runV (As := [.int _, .int _, .int _, .ref _]) (rest := []) ⟨hx, hb, hml, hown, hw⟩ (c_R_moveWord l (w &&& 15 = 3) (by assumption) (by assumption) (by assumption) (by assumption) (by first | exact (bz_t eo).symm | exact (bz_f (by rw [eo]; decide)).symm) (hPl)) (cwV 4 hw (gd_V (gwd_4 (List.mem_of_getElem? (i := 42) rfl)) (gwd_4 (List.mem_of_getElem? (i := 43) rfl)) (gwd_9 (List.mem_of_getElem? (i := 21) rfl)) (gwd_0 (List.mem_of_getElem? (i := 5) rfl)) (gwd_4 (List.mem_of_getElem? (i := 44) rfl))) rfl rfl rfl (by decide +kernel) ⟨Nat.le_of_ble_eq_true rfl, Nat.le_of_ble_eq_true rfl⟩) (gPre.V (n := (9, _, _)) hK hH (by first | exact ⟨rfl, rfl⟩ | exact ⟨by assumption, rfl⟩ | exact ⟨by assumption, by assumption⟩ | exact ⟨by omega, rfl⟩ | exact ⟨by omega, by omega⟩ | exact ⟨by decide, rfl⟩) rfl rfl) rfl rfl hl.1 rfl (lv_room (Nat.le_of_ble_eq_true rfl)) dR_perform_166 ⟨Nat.zero_le _, Nat.zero_le _⟩) hS (fun H locs hH hS => ?_)
      refine lv_istore hx hb dR_perform_169 hl (by decide) rfl (fun ls hl => ?_)
      have hl : lv_has ls 9 [(8, .int _), (7, .int _), (6, .int _), (5, .int _), (4, .int _), (3, .int _), (0, .ref _), (1, .int _), (2, .ref _)] := hl
      refine lv_goto hx hb dR_perform_171 rfl ?_
      refine lv_iload hx hb dR_perform_295 (lv_at hl 0 rfl) ?_
      refine lv_iconst (v := 1) hx hb dR_perform_297 (by decide) ?_
      refine lv_icmp_eq hx hb dR_perform_298 rfl (fun h_8 => ?_) (fun h_8 => ?_)
      · skip
        refine lv_iload hx hb dR_perform_313 (lv_at hl 0 rfl) ?_
        exact r_i hx hb hr hlk hK hH hS dR_perform_315 (by rw [sPerf_mv (Or.inl eo), show wA w = a from hA, show wB w = b from hB, et, hT]; first | (rw [if_pos h_8]; exact ⟨rfl, rfl⟩) | (rw [if_neg h_8]; exact ⟨sMove_01.resolve_left h_8, rfl⟩))
      · skip
        refine lv_iload hx hb dR_perform_301 (lv_at hl 0 rfl) ?_
        refine lv_iconst (v := 5) hx hb dR_perform_303 (by decide) ?_
        refine lv_icmp_eq hx hb dR_perform_304 rfl (fun h_9 => ?_) (fun h_9 => ?_)
        · exact absurd h_9 (by rcases sMove_01 (I := I) (P := P) (g := g) (v := v) (b := (w &&& 15 = 3)) (a := a) (t := t) with z | z <;> rw [z] <;> decide)
        · skip
          refine lv_aload_n hx hb dR_perform_307 rfl (lv_at hl 6 rfl) ?_
          refine lv_iload hx hb dR_perform_308 (lv_at hl 1 rfl) ?_
          refine s_put hx hb hw inR tyR_ok nR hown hK hH hS 1 (by decide) (hw _ (gwd_2 (List.mem_of_getElem? (i := 6) rfl))) (by first | exact ⟨rfl, rfl⟩ | exact ⟨by assumption, rfl⟩ | exact ⟨by assumption, by assumption⟩ | exact ⟨by omega, rfl⟩ | exact ⟨by omega, by omega⟩ | exact ⟨by decide, rfl⟩) rfl rfl rfl rfl rfl rfl rfl (Nat.le_of_ble_eq_true rfl) rfl dR_perform_310 (fun H locs hH hS => ?_)
          refine lv_iload hx hb dR_perform_313 (lv_at hl 0 rfl) ?_
          exact r_i hx hb hr hlk hK hH hS dR_perform_315 (by rw [sPerf_mv (Or.inl eo), show wA w = a from hA, show wB w = b from hB, et, hT]; first | (rw [if_pos h_8]; exact ⟨rfl, rfl⟩) | (rw [if_neg h_8]; exact ⟨sMove_01.resolve_left h_8, rfl⟩))
  · have eo : w &&& 15 = 4 := eo
    refine lv_tableIn (off := 96) (tgt := 138) hx hb dR_perform_42 (by decide) (by decide) (by decide) (by decide) ?_
    obtain ⟨t, ht, et⟩ := pk_andE (m := 255) (I (10, g, v) b + w >>> ((8 : Int32) &&& 31)) 8 (by decide)
    have hT : ix (nI t) = t := nI_clamp (by omega)
    have ht : t < 256 := ht
    refine lv_aload_n hx hb dR_perform_138 rfl (lv_at hl 6 rfl) ?_
    refine lv_iload_n hx hb dR_perform_139 rfl (lv_at hl 5 rfl) ?_
    refine lv_iconst (v := 3) hx hb dR_perform_140 (by decide) ?_
    refine lv_icmp_ne hx hb dR_perform_141 rfl (fun h_10 => ?_) (fun h_10 => ?_)
    · skip
      refine lv_iconst (v := 0) hx hb dR_perform_148 (by decide) ?_
      refine lv_iload hx hb dR_perform_149 (lv_at hl 4 rfl) ?_
      refine lv_aload_n hx hb dR_perform_151 rfl (lv_at hl 6 rfl) ?_
      refine s_get hx hb hw inR hown hK hH 0 (by decide) (hw _ (gwd_2 (List.mem_of_getElem? (i := 5) rfl))) (by first | exact ⟨rfl, rfl⟩ | exact ⟨by assumption, rfl⟩ | exact ⟨by assumption, by assumption⟩ | exact ⟨by omega, rfl⟩ | exact ⟨by omega, by omega⟩ | exact ⟨by decide, rfl⟩) rfl rfl rfl rfl dR_perform_152 ?_
      refine lv_iload hx hb dR_perform_155 (lv_at hl 3 rfl) ?_
      refine s_iald hx hb hK hH (by first | exact ⟨rfl, rfl⟩ | exact ⟨by assumption, rfl⟩ | exact ⟨by assumption, by assumption⟩ | exact ⟨by omega, rfl⟩ | exact ⟨by omega, by omega⟩ | exact ⟨by decide, rfl⟩) rfl _ (by first | rfl | assumption) (by first | assumption | decide | omega) (by decide) dR_perform_157 ?_
      refine lv_iload hx hb dR_perform_158 (lv_at hl 2 rfl) ?_
      refine lv_iadd hx hb dR_perform_160 ?_
      refine lv_sipush (v := 255) hx hb dR_perform_161 (by decide) ?_
      refine lv_iand hx hb dR_perform_164 ?_
      rw [et]
      refine lv_aload_n hx hb dR_perform_165 rfl (lv_at hl 8 rfl) ?_
      refine s_ciE (va_runV (As := [.int _, .int _, .int _, .ref _]) (rest := []) ⟨hx, hb, hml, hown, hw⟩ (c_R_moveWord l (w &&& 15 = 3) (by assumption) (by assumption) (by assumption) (by assumption) (by first | exact (bz_t eo).symm | exact (bz_f (by rw [eo]; decide)).symm) (hPl)) (cwV 4 hw (gd_V (gwd_4 (List.mem_of_getElem? (i := 42) rfl)) (gwd_4 (List.mem_of_getElem? (i := 43) rfl)) (gwd_9 (List.mem_of_getElem? (i := 21) rfl)) (gwd_0 (List.mem_of_getElem? (i := 5) rfl)) (gwd_4 (List.mem_of_getElem? (i := 44) rfl))) rfl rfl rfl (by decide +kernel) ⟨Nat.le_of_ble_eq_true rfl, Nat.le_of_ble_eq_true rfl⟩) (gPre.V (n := (9, _, _)) hK hH (by first | exact ⟨rfl, rfl⟩ | exact ⟨by assumption, rfl⟩ | exact ⟨by assumption, by assumption⟩ | exact ⟨by omega, rfl⟩ | exact ⟨by omega, by omega⟩ | exact ⟨by decide, rfl⟩) rfl rfl) rfl rfl hl.1 rfl (lv_room (Nat.le_of_ble_eq_true rfl)) dR_perform_166 ⟨Nat.zero_le _, Nat.zero_le _⟩) hS (fun H locs hH hS => ?_)
      refine lv_istore hx hb dR_perform_169 hl (by decide) rfl (fun ls hl => ?_)
      have hl : lv_has ls 9 [(8, .int _), (7, .int _), (6, .int _), (5, .int _), (4, .int _), (3, .int _), (0, .ref _), (1, .int _), (2, .ref _)] := hl
      refine lv_goto hx hb dR_perform_171 rfl ?_
      refine lv_iload hx hb dR_perform_295 (lv_at hl 0 rfl) ?_
      refine lv_iconst (v := 1) hx hb dR_perform_297 (by decide) ?_
      refine lv_icmp_eq hx hb dR_perform_298 rfl (fun h_11 => ?_) (fun h_11 => ?_)
      · skip
        refine lv_iload hx hb dR_perform_313 (lv_at hl 0 rfl) ?_
        exact r_i hx hb hr hlk hK hH hS dR_perform_315 (by rw [sPerf_mv (Or.inr eo), show wA w = a from hA, show wB w = b from hB, et, hT]; first | (rw [if_pos h_11]; exact ⟨rfl, rfl⟩) | (rw [if_neg h_11]; exact ⟨sMove_01.resolve_left h_11, rfl⟩))
      · skip
        refine lv_iload hx hb dR_perform_301 (lv_at hl 0 rfl) ?_
        refine lv_iconst (v := 5) hx hb dR_perform_303 (by decide) ?_
        refine lv_icmp_eq hx hb dR_perform_304 rfl (fun h_12 => ?_) (fun h_12 => ?_)
        · exact absurd h_12 (by rcases sMove_01 (I := I) (P := P) (g := g) (v := v) (b := (w &&& 15 = 3)) (a := a) (t := t) with z | z <;> rw [z] <;> decide)
        · skip
          refine lv_aload_n hx hb dR_perform_307 rfl (lv_at hl 6 rfl) ?_
          refine lv_iload hx hb dR_perform_308 (lv_at hl 1 rfl) ?_
          refine s_put hx hb hw inR tyR_ok nR hown hK hH hS 1 (by decide) (hw _ (gwd_2 (List.mem_of_getElem? (i := 6) rfl))) (by first | exact ⟨rfl, rfl⟩ | exact ⟨by assumption, rfl⟩ | exact ⟨by assumption, by assumption⟩ | exact ⟨by omega, rfl⟩ | exact ⟨by omega, by omega⟩ | exact ⟨by decide, rfl⟩) rfl rfl rfl rfl rfl rfl rfl (Nat.le_of_ble_eq_true rfl) rfl dR_perform_310 (fun H locs hH hS => ?_)
          refine lv_iload hx hb dR_perform_313 (lv_at hl 0 rfl) ?_
          exact r_i hx hb hr hlk hK hH hS dR_perform_315 (by rw [sPerf_mv (Or.inr eo), show wA w = a from hA, show wB w = b from hB, et, hT]; first | (rw [if_pos h_11]; exact ⟨rfl, rfl⟩) | (rw [if_neg h_11]; exact ⟨sMove_01.resolve_left h_11, rfl⟩))
    · exact absurd h_10 (by decide)
  · have eo : w &&& 15 = 5 := eo
    refine lv_tableIn (off := 132) (tgt := 174) hx hb dR_perform_42 (by decide) (by decide) (by decide) (by decide) ?_
    refine lv_aload_n hx hb dR_perform_174 rfl (lv_at hl 6 rfl) ?_
    refine s_get hx hb hw inR hown hK hH 0 (by decide) (hw _ (gwd_2 (List.mem_of_getElem? (i := 5) rfl))) (by first | exact ⟨rfl, rfl⟩ | exact ⟨by assumption, rfl⟩ | exact ⟨by assumption, by assumption⟩ | exact ⟨by omega, rfl⟩ | exact ⟨by omega, by omega⟩ | exact ⟨by decide, rfl⟩) rfl rfl rfl rfl dR_perform_175 ?_
    refine lv_iload hx hb dR_perform_178 (lv_at hl 4 rfl) ?_
    refine s_iald hx hb hK hH (by first | exact ⟨rfl, rfl⟩ | exact ⟨by assumption, rfl⟩ | exact ⟨by assumption, by assumption⟩ | exact ⟨by omega, rfl⟩ | exact ⟨by omega, by omega⟩ | exact ⟨by decide, rfl⟩) rfl _ (by first | rfl | assumption) (by first | assumption | decide | omega) (by decide) dR_perform_180 ?_
    refine lv_if_eq hx hb dR_perform_181 rfl (fun h_13 => ?_) (fun h_13 => ?_)
    · skip
      refine lv_iload hx hb dR_perform_193 (lv_at hl 1 rfl) ?_
      refine lv_istore hx hb dR_perform_195 hl (by decide) rfl (fun ls hl => ?_)
      have hl : lv_has ls 9 [(7, .int _), (8, .int _), (6, .int _), (5, .int _), (4, .int _), (3, .int _), (0, .ref _), (1, .int _), (2, .ref _)] := hl
      refine lv_goto hx hb dR_perform_197 rfl ?_
      refine lv_iload hx hb dR_perform_295 (lv_at hl 1 rfl) ?_
      refine lv_iconst (v := 1) hx hb dR_perform_297 (by decide) ?_
      refine lv_icmp_eq hx hb dR_perform_298 rfl (fun h_14 => ?_) (fun h_14 => ?_)
      · exact absurd h_14 (by decide)
      · skip
        refine lv_iload hx hb dR_perform_301 (lv_at hl 1 rfl) ?_
        refine lv_iconst (v := 5) hx hb dR_perform_303 (by decide) ?_
        refine lv_icmp_eq hx hb dR_perform_304 rfl (fun h_15 => ?_) (fun h_15 => ?_)
        · exact absurd h_15 (by decide)
        · skip
          refine lv_aload_n hx hb dR_perform_307 rfl (lv_at hl 6 rfl) ?_
          refine lv_iload hx hb dR_perform_308 (lv_at hl 0 rfl) ?_
          refine s_put hx hb hw inR tyR_ok nR hown hK hH hS 1 (by decide) (hw _ (gwd_2 (List.mem_of_getElem? (i := 6) rfl))) (by first | exact ⟨rfl, rfl⟩ | exact ⟨by assumption, rfl⟩ | exact ⟨by assumption, by assumption⟩ | exact ⟨by omega, rfl⟩ | exact ⟨by omega, by omega⟩ | exact ⟨by decide, rfl⟩) rfl rfl rfl rfl rfl rfl rfl (Nat.le_of_ble_eq_true rfl) rfl dR_perform_310 (fun H locs hH hS => ?_)
          refine lv_iload hx hb dR_perform_313 (lv_at hl 1 rfl) ?_
          exact r_i hx hb hr hlk hK hH hS dR_perform_315 (by simp [sPerf, eo, hA, hB, bz, h_13])
    · skip
      refine lv_iload hx hb dR_perform_184 (lv_at hl 2 rfl) ?_
      refine lv_sipush (v := 255) hx hb dR_perform_186 (by decide) ?_
      refine lv_iand hx hb dR_perform_189 ?_
      refine lv_goto hx hb dR_perform_190 rfl ?_
      refine lv_istore hx hb dR_perform_195 hl (by decide) rfl (fun ls hl => ?_)
      have hl : lv_has ls 9 [(7, .int _), (8, .int _), (6, .int _), (5, .int _), (4, .int _), (3, .int _), (0, .ref _), (1, .int _), (2, .ref _)] := hl
      refine lv_goto hx hb dR_perform_197 rfl ?_
      refine lv_iload hx hb dR_perform_295 (lv_at hl 1 rfl) ?_
      refine lv_iconst (v := 1) hx hb dR_perform_297 (by decide) ?_
      refine lv_icmp_eq hx hb dR_perform_298 rfl (fun h_16 => ?_) (fun h_16 => ?_)
      · exact absurd h_16 (by decide)
      · skip
        refine lv_iload hx hb dR_perform_301 (lv_at hl 1 rfl) ?_
        refine lv_iconst (v := 5) hx hb dR_perform_303 (by decide) ?_
        refine lv_icmp_eq hx hb dR_perform_304 rfl (fun h_17 => ?_) (fun h_17 => ?_)
        · exact absurd h_17 (by decide)
        · skip
          refine lv_aload_n hx hb dR_perform_307 rfl (lv_at hl 6 rfl) ?_
          refine lv_iload hx hb dR_perform_308 (lv_at hl 0 rfl) ?_
          refine s_put hx hb hw inR tyR_ok nR hown hK hH hS 1 (by decide) (hw _ (gwd_2 (List.mem_of_getElem? (i := 6) rfl))) (by first | exact ⟨rfl, rfl⟩ | exact ⟨by assumption, rfl⟩ | exact ⟨by assumption, by assumption⟩ | exact ⟨by omega, rfl⟩ | exact ⟨by omega, by omega⟩ | exact ⟨by decide, rfl⟩) rfl rfl rfl rfl rfl rfl rfl (Nat.le_of_ble_eq_true rfl) rfl dR_perform_310 (fun H locs hH hS => ?_)
          refine lv_iload hx hb dR_perform_313 (lv_at hl 1 rfl) ?_
          exact r_i hx hb hr hlk hK hH hS dR_perform_315 (by simp [sPerf, eo, hA, hB, bz, h_13])
  · have eo : w &&& 15 = 6 := eo
    refine lv_tableIn (off := 158) (tgt := 200) hx hb dR_perform_42 (by decide) (by decide) (by decide) (by decide) ?_
    obtain ⟨t, ht, et⟩ := pk_andE (m := 63) (I (10, g, v) a) 6 (by decide)
    have hT : ix (nI t) = t := nI_clamp (by omega)
    have ht : t < 64 := ht
    refine lv_aload_n hx hb dR_perform_200 rfl (lv_at hl 6 rfl) ?_
    refine s_get hx hb hw inR hown hK hH 0 (by decide) (hw _ (gwd_2 (List.mem_of_getElem? (i := 5) rfl))) (by first | exact ⟨rfl, rfl⟩ | exact ⟨by assumption, rfl⟩ | exact ⟨by assumption, by assumption⟩ | exact ⟨by omega, rfl⟩ | exact ⟨by omega, by omega⟩ | exact ⟨by decide, rfl⟩) rfl rfl rfl rfl dR_perform_201 ?_
    refine lv_iload hx hb dR_perform_204 (lv_at hl 4 rfl) ?_
    refine lv_aload_n hx hb dR_perform_206 rfl (lv_at hl 8 rfl) ?_
    refine lv_aload_n hx hb dR_perform_207 rfl (lv_at hl 6 rfl) ?_
    refine s_get hx hb hw inR hown hK hH 0 (by decide) (hw _ (gwd_2 (List.mem_of_getElem? (i := 5) rfl))) (by first | exact ⟨rfl, rfl⟩ | exact ⟨by assumption, rfl⟩ | exact ⟨by assumption, by assumption⟩ | exact ⟨by omega, rfl⟩ | exact ⟨by omega, by omega⟩ | exact ⟨by decide, rfl⟩) rfl rfl rfl rfl dR_perform_208 ?_
    refine lv_iload hx hb dR_perform_211 (lv_at hl 4 rfl) ?_
    refine s_iald hx hb hK hH (by first | exact ⟨rfl, rfl⟩ | exact ⟨by assumption, rfl⟩ | exact ⟨by assumption, by assumption⟩ | exact ⟨by omega, rfl⟩ | exact ⟨by omega, by omega⟩ | exact ⟨by decide, rfl⟩) rfl _ (by first | rfl | assumption) (by first | assumption | decide | omega) (by decide) dR_perform_213 ?_
    refine lv_bipush (v := 63) hx hb dR_perform_214 (by decide) ?_
    refine lv_iand hx hb dR_perform_216 ?_
    rw [et]
    refine lv_iload_n hx hb dR_perform_217 rfl (lv_at hl 5 rfl) ?_
    refine lv_bipush (v := 6) hx hb dR_perform_218 (by decide) ?_
    refine lv_icmp_ne hx hb dR_perform_220 rfl (fun h_18 => ?_) (fun h_18 => ?_)
    · exact absurd h_18 (by decide)
    · skip
      refine lv_iconst (v := 1) hx hb dR_perform_223 (by decide) ?_
      refine lv_goto hx hb dR_perform_224 rfl ?_
      refine s_ciE (va_runV (As := [.int _, .int _]) (rest := [.int _, .ref _]) ⟨hx, hb, hml, hown, hw⟩ (c_G_changeSharingAt l  (by assumption) (by first | assumption | omega) (by first | exact Or.inl rfl | exact Or.inr rfl | exact bz_01 _ | assumption) (hPl)) (cwV 2 hw (gd_V (gwd_4 (List.mem_of_getElem? (i := 45) rfl)) (gwd_4 (List.mem_of_getElem? (i := 46) rfl)) (gwd_4 (List.mem_of_getElem? (i := 47) rfl)) (gwd_0 (List.mem_of_getElem? (i := 4) rfl)) (gwd_5 (List.mem_of_getElem? (i := 0) rfl))) rfl rfl rfl (by decide +kernel) ⟨Nat.le_of_ble_eq_true rfl, Nat.le_of_ble_eq_true rfl⟩) (gPre.V (n := (6, _, 0)) hK hH (by first | exact ⟨rfl, rfl⟩ | exact ⟨by assumption, rfl⟩ | exact ⟨by assumption, by assumption⟩ | exact ⟨by omega, rfl⟩ | exact ⟨by omega, by omega⟩ | exact ⟨by decide, rfl⟩) rfl rfl) rfl rfl hl.1 rfl (lv_room (Nat.le_of_ble_eq_true rfl)) dR_perform_228 ⟨Nat.zero_le _, Nat.zero_le _⟩) hS (fun H locs hH hS => ?_)
      refine lv_if_eq hx hb dR_perform_231 rfl (fun h_19 => ?_) (fun h_19 => ?_)
      · skip
        refine lv_iconst (v := 0) hx hb dR_perform_238 (by decide) ?_
        refine s_iast hx hb hK hH hS (by first | exact ⟨rfl, rfl⟩ | exact ⟨by assumption, rfl⟩ | exact ⟨by assumption, by assumption⟩ | exact ⟨by omega, rfl⟩ | exact ⟨by omega, by omega⟩ | exact ⟨by decide, rfl⟩) rfl _ (by first | rfl | assumption) (by first | assumption | decide | omega) (by decide) rfl dR_perform_239 (fun H locs hH hS => ?_)
        refine lv_goto hx hb dR_perform_240 rfl ?_
        refine lv_iload hx hb dR_perform_295 (lv_at hl 0 rfl) ?_
        refine lv_iconst (v := 1) hx hb dR_perform_297 (by decide) ?_
        refine lv_icmp_eq hx hb dR_perform_298 rfl (fun h_20 => ?_) (fun h_20 => ?_)
        · exact absurd h_20 (by decide)
        · skip
          refine lv_iload hx hb dR_perform_301 (lv_at hl 0 rfl) ?_
          refine lv_iconst (v := 5) hx hb dR_perform_303 (by decide) ?_
          refine lv_icmp_eq hx hb dR_perform_304 rfl (fun h_21 => ?_) (fun h_21 => ?_)
          · exact absurd h_21 (by decide)
          · skip
            refine lv_aload_n hx hb dR_perform_307 rfl (lv_at hl 6 rfl) ?_
            refine lv_iload hx hb dR_perform_308 (lv_at hl 1 rfl) ?_
            refine s_put hx hb hw inR tyR_ok nR hown hK hH hS 1 (by decide) (hw _ (gwd_2 (List.mem_of_getElem? (i := 6) rfl))) (by first | exact ⟨rfl, rfl⟩ | exact ⟨by assumption, rfl⟩ | exact ⟨by assumption, by assumption⟩ | exact ⟨by omega, rfl⟩ | exact ⟨by omega, by omega⟩ | exact ⟨by decide, rfl⟩) rfl rfl rfl rfl rfl rfl rfl (Nat.le_of_ble_eq_true rfl) rfl dR_perform_310 (fun H locs hH hS => ?_)
            refine lv_iload hx hb dR_perform_313 (lv_at hl 0 rfl) ?_
            exact r_i hx hb hr hlk hK hH hS dR_perform_315 (by simp [sPerf, eo, hA, hB, bz, et, hT, h_19])
      · skip
        have h_19 := sChg_01.resolve_left h_19
        refine lv_iconst (v := 1) hx hb dR_perform_234 (by decide) ?_
        refine lv_goto hx hb dR_perform_235 rfl ?_
        refine s_iast hx hb hK hH hS (by first | exact ⟨rfl, rfl⟩ | exact ⟨by assumption, rfl⟩ | exact ⟨by assumption, by assumption⟩ | exact ⟨by omega, rfl⟩ | exact ⟨by omega, by omega⟩ | exact ⟨by decide, rfl⟩) rfl _ (by first | rfl | assumption) (by first | assumption | decide | omega) (by decide) rfl dR_perform_239 (fun H locs hH hS => ?_)
        refine lv_goto hx hb dR_perform_240 rfl ?_
        refine lv_iload hx hb dR_perform_295 (lv_at hl 0 rfl) ?_
        refine lv_iconst (v := 1) hx hb dR_perform_297 (by decide) ?_
        refine lv_icmp_eq hx hb dR_perform_298 rfl (fun h_22 => ?_) (fun h_22 => ?_)
        · exact absurd h_22 (by decide)
        · skip
          refine lv_iload hx hb dR_perform_301 (lv_at hl 0 rfl) ?_
          refine lv_iconst (v := 5) hx hb dR_perform_303 (by decide) ?_
          refine lv_icmp_eq hx hb dR_perform_304 rfl (fun h_23 => ?_) (fun h_23 => ?_)
          · exact absurd h_23 (by decide)
          · skip
            refine lv_aload_n hx hb dR_perform_307 rfl (lv_at hl 6 rfl) ?_
            refine lv_iload hx hb dR_perform_308 (lv_at hl 1 rfl) ?_
            refine s_put hx hb hw inR tyR_ok nR hown hK hH hS 1 (by decide) (hw _ (gwd_2 (List.mem_of_getElem? (i := 6) rfl))) (by first | exact ⟨rfl, rfl⟩ | exact ⟨by assumption, rfl⟩ | exact ⟨by assumption, by assumption⟩ | exact ⟨by omega, rfl⟩ | exact ⟨by omega, by omega⟩ | exact ⟨by decide, rfl⟩) rfl rfl rfl rfl rfl rfl rfl (Nat.le_of_ble_eq_true rfl) rfl dR_perform_310 (fun H locs hH hS => ?_)
            refine lv_iload hx hb dR_perform_313 (lv_at hl 0 rfl) ?_
            exact r_i hx hb hr hlk hK hH hS dR_perform_315 (by simp [sPerf, eo, hA, hB, bz, et, hT, h_19])
  · have eo : w &&& 15 = 7 := eo
    refine lv_tableIn (off := 158) (tgt := 200) hx hb dR_perform_42 (by decide) (by decide) (by decide) (by decide) ?_
    obtain ⟨t, ht, et⟩ := pk_andE (m := 63) (I (10, g, v) a) 6 (by decide)
    have hT : ix (nI t) = t := nI_clamp (by omega)
    have ht : t < 64 := ht
    refine lv_aload_n hx hb dR_perform_200 rfl (lv_at hl 6 rfl) ?_
    refine s_get hx hb hw inR hown hK hH 0 (by decide) (hw _ (gwd_2 (List.mem_of_getElem? (i := 5) rfl))) (by first | exact ⟨rfl, rfl⟩ | exact ⟨by assumption, rfl⟩ | exact ⟨by assumption, by assumption⟩ | exact ⟨by omega, rfl⟩ | exact ⟨by omega, by omega⟩ | exact ⟨by decide, rfl⟩) rfl rfl rfl rfl dR_perform_201 ?_
    refine lv_iload hx hb dR_perform_204 (lv_at hl 4 rfl) ?_
    refine lv_aload_n hx hb dR_perform_206 rfl (lv_at hl 8 rfl) ?_
    refine lv_aload_n hx hb dR_perform_207 rfl (lv_at hl 6 rfl) ?_
    refine s_get hx hb hw inR hown hK hH 0 (by decide) (hw _ (gwd_2 (List.mem_of_getElem? (i := 5) rfl))) (by first | exact ⟨rfl, rfl⟩ | exact ⟨by assumption, rfl⟩ | exact ⟨by assumption, by assumption⟩ | exact ⟨by omega, rfl⟩ | exact ⟨by omega, by omega⟩ | exact ⟨by decide, rfl⟩) rfl rfl rfl rfl dR_perform_208 ?_
    refine lv_iload hx hb dR_perform_211 (lv_at hl 4 rfl) ?_
    refine s_iald hx hb hK hH (by first | exact ⟨rfl, rfl⟩ | exact ⟨by assumption, rfl⟩ | exact ⟨by assumption, by assumption⟩ | exact ⟨by omega, rfl⟩ | exact ⟨by omega, by omega⟩ | exact ⟨by decide, rfl⟩) rfl _ (by first | rfl | assumption) (by first | assumption | decide | omega) (by decide) dR_perform_213 ?_
    refine lv_bipush (v := 63) hx hb dR_perform_214 (by decide) ?_
    refine lv_iand hx hb dR_perform_216 ?_
    rw [et]
    refine lv_iload_n hx hb dR_perform_217 rfl (lv_at hl 5 rfl) ?_
    refine lv_bipush (v := 6) hx hb dR_perform_218 (by decide) ?_
    refine lv_icmp_ne hx hb dR_perform_220 rfl (fun h_24 => ?_) (fun h_24 => ?_)
    · skip
      refine lv_iconst (v := 0) hx hb dR_perform_227 (by decide) ?_
      refine s_ciE (va_runV (As := [.int _, .int _]) (rest := [.int _, .ref _]) ⟨hx, hb, hml, hown, hw⟩ (c_G_changeSharingAt l  (by assumption) (by first | assumption | omega) (by first | exact Or.inl rfl | exact Or.inr rfl | exact bz_01 _ | assumption) (hPl)) (cwV 2 hw (gd_V (gwd_4 (List.mem_of_getElem? (i := 45) rfl)) (gwd_4 (List.mem_of_getElem? (i := 46) rfl)) (gwd_4 (List.mem_of_getElem? (i := 47) rfl)) (gwd_0 (List.mem_of_getElem? (i := 4) rfl)) (gwd_5 (List.mem_of_getElem? (i := 0) rfl))) rfl rfl rfl (by decide +kernel) ⟨Nat.le_of_ble_eq_true rfl, Nat.le_of_ble_eq_true rfl⟩) (gPre.V (n := (6, _, 0)) hK hH (by first | exact ⟨rfl, rfl⟩ | exact ⟨by assumption, rfl⟩ | exact ⟨by assumption, by assumption⟩ | exact ⟨by omega, rfl⟩ | exact ⟨by omega, by omega⟩ | exact ⟨by decide, rfl⟩) rfl rfl) rfl rfl hl.1 rfl (lv_room (Nat.le_of_ble_eq_true rfl)) dR_perform_228 ⟨Nat.zero_le _, Nat.zero_le _⟩) hS (fun H locs hH hS => ?_)
      refine lv_if_eq hx hb dR_perform_231 rfl (fun h_25 => ?_) (fun h_25 => ?_)
      · skip
        refine lv_iconst (v := 0) hx hb dR_perform_238 (by decide) ?_
        refine s_iast hx hb hK hH hS (by first | exact ⟨rfl, rfl⟩ | exact ⟨by assumption, rfl⟩ | exact ⟨by assumption, by assumption⟩ | exact ⟨by omega, rfl⟩ | exact ⟨by omega, by omega⟩ | exact ⟨by decide, rfl⟩) rfl _ (by first | rfl | assumption) (by first | assumption | decide | omega) (by decide) rfl dR_perform_239 (fun H locs hH hS => ?_)
        refine lv_goto hx hb dR_perform_240 rfl ?_
        refine lv_iload hx hb dR_perform_295 (lv_at hl 0 rfl) ?_
        refine lv_iconst (v := 1) hx hb dR_perform_297 (by decide) ?_
        refine lv_icmp_eq hx hb dR_perform_298 rfl (fun h_26 => ?_) (fun h_26 => ?_)
        · exact absurd h_26 (by decide)
        · skip
          refine lv_iload hx hb dR_perform_301 (lv_at hl 0 rfl) ?_
          refine lv_iconst (v := 5) hx hb dR_perform_303 (by decide) ?_
          refine lv_icmp_eq hx hb dR_perform_304 rfl (fun h_27 => ?_) (fun h_27 => ?_)
          · exact absurd h_27 (by decide)
          · skip
            refine lv_aload_n hx hb dR_perform_307 rfl (lv_at hl 6 rfl) ?_
            refine lv_iload hx hb dR_perform_308 (lv_at hl 1 rfl) ?_
            refine s_put hx hb hw inR tyR_ok nR hown hK hH hS 1 (by decide) (hw _ (gwd_2 (List.mem_of_getElem? (i := 6) rfl))) (by first | exact ⟨rfl, rfl⟩ | exact ⟨by assumption, rfl⟩ | exact ⟨by assumption, by assumption⟩ | exact ⟨by omega, rfl⟩ | exact ⟨by omega, by omega⟩ | exact ⟨by decide, rfl⟩) rfl rfl rfl rfl rfl rfl rfl (Nat.le_of_ble_eq_true rfl) rfl dR_perform_310 (fun H locs hH hS => ?_)
            refine lv_iload hx hb dR_perform_313 (lv_at hl 0 rfl) ?_
            exact r_i hx hb hr hlk hK hH hS dR_perform_315 (by simp [sPerf, eo, hA, hB, bz, et, hT, h_25])
      · skip
        have h_25 := sChg_01.resolve_left h_25
        refine lv_iconst (v := 1) hx hb dR_perform_234 (by decide) ?_
        refine lv_goto hx hb dR_perform_235 rfl ?_
        refine s_iast hx hb hK hH hS (by first | exact ⟨rfl, rfl⟩ | exact ⟨by assumption, rfl⟩ | exact ⟨by assumption, by assumption⟩ | exact ⟨by omega, rfl⟩ | exact ⟨by omega, by omega⟩ | exact ⟨by decide, rfl⟩) rfl _ (by first | rfl | assumption) (by first | assumption | decide | omega) (by decide) rfl dR_perform_239 (fun H locs hH hS => ?_)
        refine lv_goto hx hb dR_perform_240 rfl ?_
        refine lv_iload hx hb dR_perform_295 (lv_at hl 0 rfl) ?_
        refine lv_iconst (v := 1) hx hb dR_perform_297 (by decide) ?_
        refine lv_icmp_eq hx hb dR_perform_298 rfl (fun h_28 => ?_) (fun h_28 => ?_)
        · exact absurd h_28 (by decide)
        · skip
          refine lv_iload hx hb dR_perform_301 (lv_at hl 0 rfl) ?_
          refine lv_iconst (v := 5) hx hb dR_perform_303 (by decide) ?_
          refine lv_icmp_eq hx hb dR_perform_304 rfl (fun h_29 => ?_) (fun h_29 => ?_)
          · exact absurd h_29 (by decide)
          · skip
            refine lv_aload_n hx hb dR_perform_307 rfl (lv_at hl 6 rfl) ?_
            refine lv_iload hx hb dR_perform_308 (lv_at hl 1 rfl) ?_
            refine s_put hx hb hw inR tyR_ok nR hown hK hH hS 1 (by decide) (hw _ (gwd_2 (List.mem_of_getElem? (i := 6) rfl))) (by first | exact ⟨rfl, rfl⟩ | exact ⟨by assumption, rfl⟩ | exact ⟨by assumption, by assumption⟩ | exact ⟨by omega, rfl⟩ | exact ⟨by omega, by omega⟩ | exact ⟨by decide, rfl⟩) rfl rfl rfl rfl rfl rfl rfl (Nat.le_of_ble_eq_true rfl) rfl dR_perform_310 (fun H locs hH hS => ?_)
            refine lv_iload hx hb dR_perform_313 (lv_at hl 0 rfl) ?_
            exact r_i hx hb hr hlk hK hH hS dR_perform_315 (by simp [sPerf, eo, hA, hB, bz, et, hT, h_25])
    · exact absurd h_24 (by decide)
  · have eo : w &&& 15 = 8 := eo
    refine lv_tableIn (off := 201) (tgt := 243) hx hb dR_perform_42 (by decide) (by decide) (by decide) (by decide) ?_
    refine lv_aload_n hx hb dR_perform_243 rfl (lv_at hl 6 rfl) ?_
    refine lv_aload_n hx hb dR_perform_244 rfl (lv_at hl 6 rfl) ?_
    refine s_get hx hb hw inR hown hK hH 0 (by decide) (hw _ (gwd_2 (List.mem_of_getElem? (i := 5) rfl))) (by first | exact ⟨rfl, rfl⟩ | exact ⟨by assumption, rfl⟩ | exact ⟨by assumption, by assumption⟩ | exact ⟨by omega, rfl⟩ | exact ⟨by omega, by omega⟩ | exact ⟨by decide, rfl⟩) rfl rfl rfl rfl dR_perform_245 ?_
    refine lv_iload hx hb dR_perform_248 (lv_at hl 4 rfl) ?_
    refine s_iald hx hb hK hH (by first | exact ⟨rfl, rfl⟩ | exact ⟨by assumption, rfl⟩ | exact ⟨by assumption, by assumption⟩ | exact ⟨by omega, rfl⟩ | exact ⟨by omega, by omega⟩ | exact ⟨by decide, rfl⟩) rfl _ (by first | rfl | assumption) (by first | assumption | decide | omega) (by decide) dR_perform_250 ?_
    refine s_put hx hb hw inR tyR_ok nR hown hK hH hS 2 (by decide) (hw _ (gwd_2 (List.mem_of_getElem? (i := 7) rfl))) (by first | exact ⟨rfl, rfl⟩ | exact ⟨by assumption, rfl⟩ | exact ⟨by assumption, by assumption⟩ | exact ⟨by omega, rfl⟩ | exact ⟨by omega, by omega⟩ | exact ⟨by decide, rfl⟩) rfl rfl rfl rfl rfl rfl rfl (Nat.le_of_ble_eq_true rfl) rfl dR_perform_251 (fun H locs hH hS => ?_)
    refine lv_iconst (v := 2) hx hb dR_perform_254 (by decide) ?_
    refine lv_istore hx hb dR_perform_255 hl (by decide) rfl (fun ls hl => ?_)
    have hl : lv_has ls 9 [(8, .int _), (7, .int _), (6, .int _), (5, .int _), (4, .int _), (3, .int _), (0, .ref _), (1, .int _), (2, .ref _)] := hl
    refine lv_goto hx hb dR_perform_257 rfl ?_
    refine lv_iload hx hb dR_perform_295 (lv_at hl 0 rfl) ?_
    refine lv_iconst (v := 1) hx hb dR_perform_297 (by decide) ?_
    refine lv_icmp_eq hx hb dR_perform_298 rfl (fun h_30 => ?_) (fun h_30 => ?_)
    · exact absurd h_30 (by decide)
    · skip
      refine lv_iload hx hb dR_perform_301 (lv_at hl 0 rfl) ?_
      refine lv_iconst (v := 5) hx hb dR_perform_303 (by decide) ?_
      refine lv_icmp_eq hx hb dR_perform_304 rfl (fun h_31 => ?_) (fun h_31 => ?_)
      · exact absurd h_31 (by decide)
      · skip
        refine lv_aload_n hx hb dR_perform_307 rfl (lv_at hl 6 rfl) ?_
        refine lv_iload hx hb dR_perform_308 (lv_at hl 1 rfl) ?_
        refine s_put hx hb hw inR tyR_ok nR hown hK hH hS 1 (by decide) (hw _ (gwd_2 (List.mem_of_getElem? (i := 6) rfl))) (by first | exact ⟨rfl, rfl⟩ | exact ⟨by assumption, rfl⟩ | exact ⟨by assumption, by assumption⟩ | exact ⟨by omega, rfl⟩ | exact ⟨by omega, by omega⟩ | exact ⟨by decide, rfl⟩) rfl rfl rfl rfl rfl rfl rfl (Nat.le_of_ble_eq_true rfl) rfl dR_perform_310 (fun H locs hH hS => ?_)
        refine lv_iload hx hb dR_perform_313 (lv_at hl 0 rfl) ?_
        exact r_i hx hb hr hlk hK hH hS dR_perform_315 (by simp [sPerf, eo, hA, hB, bz])
  · have eo : w &&& 15 = 9 := eo
    refine lv_tableIn (off := 218) (tgt := 260) hx hb dR_perform_42 (by decide) (by decide) (by decide) (by decide) ?_
    refine lv_aload_n hx hb dR_perform_260 rfl (lv_at hl 6 rfl) ?_
    refine lv_iload hx hb dR_perform_261 (lv_at hl 4 rfl) ?_
    refine s_put hx hb hw inR tyR_ok nR hown hK hH hS 3 (by decide) (hw _ (gwd_2 (List.mem_of_getElem? (i := 9) rfl))) (by first | exact ⟨rfl, rfl⟩ | exact ⟨by assumption, rfl⟩ | exact ⟨by assumption, by assumption⟩ | exact ⟨by omega, rfl⟩ | exact ⟨by omega, by omega⟩ | exact ⟨by decide, rfl⟩) rfl rfl rfl rfl rfl rfl rfl (Nat.le_of_ble_eq_true rfl) rfl dR_perform_263 (fun H locs hH hS => ?_)
    refine lv_iconst (v := 3) hx hb dR_perform_266 (by decide) ?_
    refine lv_istore hx hb dR_perform_267 hl (by decide) rfl (fun ls hl => ?_)
    have hl : lv_has ls 9 [(8, .int _), (7, .int _), (6, .int _), (5, .int _), (4, .int _), (3, .int _), (0, .ref _), (1, .int _), (2, .ref _)] := hl
    refine lv_goto hx hb dR_perform_269 rfl ?_
    refine lv_iload hx hb dR_perform_295 (lv_at hl 0 rfl) ?_
    refine lv_iconst (v := 1) hx hb dR_perform_297 (by decide) ?_
    refine lv_icmp_eq hx hb dR_perform_298 rfl (fun h_32 => ?_) (fun h_32 => ?_)
    · exact absurd h_32 (by decide)
    · skip
      refine lv_iload hx hb dR_perform_301 (lv_at hl 0 rfl) ?_
      refine lv_iconst (v := 5) hx hb dR_perform_303 (by decide) ?_
      refine lv_icmp_eq hx hb dR_perform_304 rfl (fun h_33 => ?_) (fun h_33 => ?_)
      · exact absurd h_33 (by decide)
      · skip
        refine lv_aload_n hx hb dR_perform_307 rfl (lv_at hl 6 rfl) ?_
        refine lv_iload hx hb dR_perform_308 (lv_at hl 1 rfl) ?_
        refine s_put hx hb hw inR tyR_ok nR hown hK hH hS 1 (by decide) (hw _ (gwd_2 (List.mem_of_getElem? (i := 6) rfl))) (by first | exact ⟨rfl, rfl⟩ | exact ⟨by assumption, rfl⟩ | exact ⟨by assumption, by assumption⟩ | exact ⟨by omega, rfl⟩ | exact ⟨by omega, by omega⟩ | exact ⟨by decide, rfl⟩) rfl rfl rfl rfl rfl rfl rfl (Nat.le_of_ble_eq_true rfl) rfl dR_perform_310 (fun H locs hH hS => ?_)
        refine lv_iload hx hb dR_perform_313 (lv_at hl 0 rfl) ?_
        exact r_i hx hb hr hlk hK hH hS dR_perform_315 (by simp [sPerf, eo, hA, hB, bz])
  · have eo : w &&& 15 = 10 := eo
    refine lv_tableIn (off := 230) (tgt := 272) hx hb dR_perform_42 (by decide) (by decide) (by decide) (by decide) ?_
    refine lv_aload_n hx hb dR_perform_272 rfl (lv_at hl 6 rfl) ?_
    refine s_get hx hb hw inR hown hK hH 0 (by decide) (hw _ (gwd_2 (List.mem_of_getElem? (i := 5) rfl))) (by first | exact ⟨rfl, rfl⟩ | exact ⟨by assumption, rfl⟩ | exact ⟨by assumption, by assumption⟩ | exact ⟨by omega, rfl⟩ | exact ⟨by omega, by omega⟩ | exact ⟨by decide, rfl⟩) rfl rfl rfl rfl dR_perform_273 ?_
    refine lv_iload hx hb dR_perform_276 (lv_at hl 4 rfl) ?_
    refine lv_dup2_11 hx hb dR_perform_278 rfl rfl ?_
    refine s_iald hx hb hK hH (by first | exact ⟨rfl, rfl⟩ | exact ⟨by assumption, rfl⟩ | exact ⟨by assumption, by assumption⟩ | exact ⟨by omega, rfl⟩ | exact ⟨by omega, by omega⟩ | exact ⟨by decide, rfl⟩) rfl _ (by first | rfl | assumption) (by first | assumption | decide | omega) (by decide) dR_perform_279 ?_
    refine lv_aload_n hx hb dR_perform_280 rfl (lv_at hl 6 rfl) ?_
    refine s_get hx hb hw inR hown hK hH 0 (by decide) (hw _ (gwd_2 (List.mem_of_getElem? (i := 5) rfl))) (by first | exact ⟨rfl, rfl⟩ | exact ⟨by assumption, rfl⟩ | exact ⟨by assumption, by assumption⟩ | exact ⟨by omega, rfl⟩ | exact ⟨by omega, by omega⟩ | exact ⟨by decide, rfl⟩) rfl rfl rfl rfl dR_perform_281 ?_
    refine lv_iload hx hb dR_perform_284 (lv_at hl 3 rfl) ?_
    refine s_iald hx hb hK hH (by first | exact ⟨rfl, rfl⟩ | exact ⟨by assumption, rfl⟩ | exact ⟨by assumption, by assumption⟩ | exact ⟨by omega, rfl⟩ | exact ⟨by omega, by omega⟩ | exact ⟨by decide, rfl⟩) rfl _ (by first | rfl | assumption) (by first | assumption | decide | omega) (by decide) dR_perform_286 ?_
    refine lv_ixor hx hb dR_perform_287 ?_
    refine s_iast hx hb hK hH hS (by first | exact ⟨rfl, rfl⟩ | exact ⟨by assumption, rfl⟩ | exact ⟨by assumption, by assumption⟩ | exact ⟨by omega, rfl⟩ | exact ⟨by omega, by omega⟩ | exact ⟨by decide, rfl⟩) rfl _ (by first | rfl | assumption) (by first | assumption | decide | omega) (by decide) rfl dR_perform_288 (fun H locs hH hS => ?_)
    refine lv_goto hx hb dR_perform_289 rfl ?_
    refine lv_iload hx hb dR_perform_295 (lv_at hl 0 rfl) ?_
    refine lv_iconst (v := 1) hx hb dR_perform_297 (by decide) ?_
    refine lv_icmp_eq hx hb dR_perform_298 rfl (fun h_34 => ?_) (fun h_34 => ?_)
    · exact absurd h_34 (by decide)
    · skip
      refine lv_iload hx hb dR_perform_301 (lv_at hl 0 rfl) ?_
      refine lv_iconst (v := 5) hx hb dR_perform_303 (by decide) ?_
      refine lv_icmp_eq hx hb dR_perform_304 rfl (fun h_35 => ?_) (fun h_35 => ?_)
      · exact absurd h_35 (by decide)
      · skip
        refine lv_aload_n hx hb dR_perform_307 rfl (lv_at hl 6 rfl) ?_
        refine lv_iload hx hb dR_perform_308 (lv_at hl 1 rfl) ?_
        refine s_put hx hb hw inR tyR_ok nR hown hK hH hS 1 (by decide) (hw _ (gwd_2 (List.mem_of_getElem? (i := 6) rfl))) (by first | exact ⟨rfl, rfl⟩ | exact ⟨by assumption, rfl⟩ | exact ⟨by assumption, by assumption⟩ | exact ⟨by omega, rfl⟩ | exact ⟨by omega, by omega⟩ | exact ⟨by decide, rfl⟩) rfl rfl rfl rfl rfl rfl rfl (Nat.le_of_ble_eq_true rfl) rfl dR_perform_310 (fun H locs hH hS => ?_)
        refine lv_iload hx hb dR_perform_313 (lv_at hl 0 rfl) ?_
        exact r_i hx hb hr hlk hK hH hS dR_perform_315 (by simp [sPerf, eo, hA, hB, bz])
  · have hb2 : (10 : Int32).toInt < (nI o).toInt := by rw [nI_toInt (by omega)]; exact Int.ofNat_lt.mpr hbig
    refine lv_tableOut (tgt := 292) hx hb dR_perform_42 (Or.inr hb2) (by decide) ?_
    refine lv_iconst (v := 5) hx hb dR_perform_292 (by decide) ?_
    refine lv_istore hx hb dR_perform_293 hl (by decide) rfl (fun ls hl => ?_)
    have hl : lv_has ls 9 [(8, .int _), (7, .int _), (6, .int _), (5, .int _), (4, .int _), (3, .int _), (0, .ref _), (1, .int _), (2, .ref _)] := hl
    refine lv_iload hx hb dR_perform_295 (lv_at hl 0 rfl) ?_
    refine lv_iconst (v := 1) hx hb dR_perform_297 (by decide) ?_
    refine lv_icmp_eq hx hb dR_perform_298 rfl (fun h_36 => ?_) (fun h_36 => ?_)
    · exact absurd h_36 (by decide)
    · skip
      refine lv_iload hx hb dR_perform_301 (lv_at hl 0 rfl) ?_
      refine lv_iconst (v := 5) hx hb dR_perform_303 (by decide) ?_
      refine lv_icmp_eq hx hb dR_perform_304 rfl (fun h_37 => ?_) (fun h_37 => ?_)
      · skip
        refine lv_iload hx hb dR_perform_313 (lv_at hl 0 rfl) ?_
        exact r_i hx hb hr hlk hK hH hS dR_perform_315 (by rw [sPerf_bad (hbg hbig)]; exact ⟨rfl, rfl⟩)
      · exact absurd h_37 (by decide)
