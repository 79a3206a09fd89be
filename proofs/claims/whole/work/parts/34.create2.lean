theorem gInit_hd {k : Nat} : ∀ n, (gD k n ∨ n = (6, k, 0)) → 6 ≤ n.1 → n.1 ≤ 10 → n.2.1 = k → n = (6, k, 0) := by
  intro n hn h6 h10 hk
  obtain ⟨a, b, d⟩ := n
  rcases hn with hn | hn
  · dsimp only at h6 h10 hk
    subst hk
    rcases (show a = 6 ∨ a = 7 ∨ a = 8 ∨ a = 9 ∨ a = 10 by omega) with rfl | rfl | rfl | rfl | rfl <;> exact absurd hn.1 (Nat.lt_irrefl _)
  · exact hn
theorem sKeep_kp {I : gI} {q f : Nat} {x : Int32} : sKeep I q x (0, 0, 0) f = I (0, 0, 0) f := by
  unfold sKeep sOwn sShare
  split <;> simp [sWipe, iu_at]
set_option maxHeartbeats 4000000 in
set_option maxRecDepth 100000 in
theorem c_K_create (l : Launch) {D : va_G} {c : Nat → ClassId} {sz : Nat} {ad : gN → Nat} {k : Nat} {I J : gI} {P : gP} {LG : Option Nat} {LP : Option (Nat × Nat)} {x : Int32} (hmk : I (0, 0, 0) 3 = nI k) (hk6 : k ≤ 6) (hLG : ∀ g, LG = some g → g < k) (hLP : ∀ q, LP = some q → q.1 < k ∧ q.2 < 2) (hPl : ∀ g a q, P g a = some q → q < 24) : Met l yK_create wK_create { frames := 4, cells := 7, slots := 88, locals := 83 } (gPre D c sz [.ref (ad (0, 0, 0)), .int x] (ad, k, I, J, P, LG, LP)) (va_Qi (cCre ad k I J P LG LP x) (gB D c sz) (gA sz)) 7 88 (gA sz) := by
  refine Met.ofW (cc := cK_create) (maxL := 2) (ret := (some .int)) (by decide) rfl ?_
  intro p e s m args below meth cd s₁ B hml hv
  obtain ⟨rfl, hK, hH⟩ := hv
  have hx := B.exec
  have hb := B.bytes
  have hr := B.returns
  have hts := atoms_spec (ws := wK_create) B.pre
  have hw : ∀ w ∈ gWd, w.before _ s = true := fun w h => hts w (List.mem_cons_of_mem _ h)
  have hown : s.vm.findClass RK = some m.cls := findClass_of_methodNamed B.named
  have hlk := B.notSynchronized
  skip
  have hS : va_S (gA sz) s.heap s.heap [] := va_S.rf
  have hl := lv_entry ([.ref (ad (0, 0, 0)), .int x]) (n := 2) (Nat.le_of_ble_eq_true rfl)
  rw [lg_entry_eq]
  generalize (lg_sl ([.ref (ad (0, 0, 0)), .int x]) ++ List.replicate (2 - (lg_sl ([.ref (ad (0, 0, 0)), .int x])).length) Slot.unset).toArray = ls at hl ⊢
  have hH : gW D c sz ad k I J P LG LP s.heap := hH
  have hl : lv_has ls 2 [(0, .ref (ad (0, 0, 0))), (1, .int x)] := hl
  have hA := gH.sz hH (n := (0, 0, 0)) ⟨rfl, rfl⟩
  refine lv_aload_n hx hb dK_create_0 rfl (lv_at hl 0 rfl) ?_
  refine lv_iload_n hx hb dK_create_1 rfl (lv_at hl 1 rfl) ?_
  refine s_ciE (va_runV (As := [.int _]) (rest := []) ⟨hx, hb, hml, hown, hw⟩ (c_K_isFreePage l  ) (cwV 1 hw (gd_V (gwd_1 (List.mem_of_getElem? (i := 39) rfl)) (gwd_1 (List.mem_of_getElem? (i := 40) rfl)) (gwd_9 (List.mem_of_getElem? (i := 13) rfl)) (gwd_0 (List.mem_of_getElem? (i := 1) rfl)) (gwd_1 (List.mem_of_getElem? (i := 41) rfl))) rfl rfl rfl (by decide +kernel) ⟨Nat.le_of_ble_eq_true rfl, Nat.le_of_ble_eq_true rfl⟩) (gPre.V (n := (0, 0, 0)) hK hH (by first | exact ⟨rfl, rfl⟩ | exact ⟨by assumption, rfl⟩ | exact ⟨by assumption, by assumption⟩ | exact ⟨by omega, rfl⟩ | exact ⟨by omega, by omega⟩ | exact ⟨by decide, rfl⟩) rfl rfl) rfl rfl hl.1 rfl (lv_room (Nat.le_of_ble_eq_true rfl)) dK_create_2 ⟨Nat.zero_le _, Nat.zero_le _⟩) hS (fun H locs hH hS => ?_)
  refine s_ifne hx hb dK_create_5 rfl (fun h_1 => ?_) (fun h_1 => ?_)
  · skip
    obtain ⟨j, hj, rfl⟩ := isP_ix (h_1).1
    have hi : ix (nI j) = j := ix_nI (by omega)
    refine lv_aload_n hx hb dK_create_10 rfl (lv_at hl 0 rfl) ?_
    refine s_get hx hb hw inK hown hK hH 3 (by decide) (hw _ (gwd_0 (List.mem_of_getElem? (i := 44) rfl))) (by first | exact ⟨rfl, rfl⟩ | exact ⟨by assumption, rfl⟩ | exact ⟨by assumption, by assumption⟩ | exact ⟨by omega, rfl⟩ | exact ⟨by omega, by omega⟩ | exact ⟨by decide, rfl⟩) rfl rfl rfl rfl dK_create_11 ?_
    refine lv_bipush (v := 6) hx hb dK_create_14 (by decide) ?_
    refine lv_icmp_lt hx hb dK_create_16 rfl (fun h_2 => ?_) (fun h_2 => ?_)
    · skip
      have hk5 : k < 6 := (nI_ltI (by omega) (by decide)).mp (show nI k < nI 6 by rw [← hmk]; exact h_2)
      refine lv_aload_n hx hb dK_create_22 rfl (lv_at hl 0 rfl) ?_
      refine s_get hx hb hw inK hown hK hH 1 (by decide) (hw _ (gwd_0 (List.mem_of_getElem? (i := 42) rfl))) (by first | exact ⟨rfl, rfl⟩ | exact ⟨by assumption, rfl⟩ | exact ⟨by assumption, by assumption⟩ | exact ⟨by omega, rfl⟩ | exact ⟨by omega, by omega⟩ | exact ⟨by decide, rfl⟩) rfl rfl rfl rfl dK_create_23 ?_
      refine lv_aload_n hx hb dK_create_26 rfl (lv_at hl 0 rfl) ?_
      refine s_get hx hb hw inK hown hK hH 3 (by decide) (hw _ (gwd_0 (List.mem_of_getElem? (i := 44) rfl))) (by first | exact ⟨rfl, rfl⟩ | exact ⟨by assumption, rfl⟩ | exact ⟨by assumption, by assumption⟩ | exact ⟨by omega, rfl⟩ | exact ⟨by omega, by omega⟩ | exact ⟨by decide, rfl⟩) rfl rfl rfl rfl dK_create_27 ?_
      refine gx_new (ci := 2) (fs := [.int 0, .null, .null, .int 0, .int 0, .int 0]) hx hb hw inG tyG tyG_ok hown (hw _ (gwd_0 (List.mem_of_getElem? (i := 40) rfl))) (hw _ (gwd_1 (List.mem_of_getElem? (i := 42) rfl))) (hw _ (gwd_0 (List.mem_of_getElem? (i := 4) rfl))) hK.1 hH hS hA (6, k, 0) (fun z => absurd z.1 (Nat.lt_irrefl k)) rfl (fun j hj => by rcases (show j = 0 ∨ j = 1 ∨ j = 2 ∨ j = 3 ∨ j = 4 ∨ j = 5 by omega) with rfl | rfl | rfl | rfl | rfl | rfl <;> rfl) (Nat.le_of_ble_eq_true rfl) (Nat.le_of_ble_eq_true rfl) dK_create_30 (fun Q6 H hH hS => ?_)
      have a0 : gu ad (6, k, 0) Q6 (0, 0, 0) = ad (0, 0, 0) := gu_n _ _ (by simp)
      rw [← a0] at hl
      obtain ⟨ad1, hAD1⟩ : ∃ a, a = gu ad (6, k, 0) Q6 := ⟨_, rfl⟩
      rw [← hAD1] at hH hl
      have hold1 : ∀ n, gD k n → ad1 n = ad n := fun n hn => by rw [hAD1]; exact gu_n _ _ (fun z => by rw [z] at hn; exact absurd hn.1 (Nat.lt_irrefl k))
      have a6 : ad1 (6, k, 0) = Q6 := by rw [hAD1, gu_s]
      clear a0
      refine lv_dup hx hb dK_create_33 rfl ?_
      refine lv_aload_n hx hb dK_create_34 rfl (lv_at hl 0 rfl) ?_
      refine gx_get (ci := 0) (n := (0, 0, 0)) (fs := [.ref (ad (1, 0, 0)), .ref (ad (4, 0, 0)), .ref (ad (5, 0, 0)), .int (I (0, 0, 0) 3), .int (I (0, 0, 0) 4), .int (I (0, 0, 0) 5), va_rf (LG.map fun g => ad (6, g, 0)), va_rf (LP.map fun q => ad (9, q.1, q.2))]) (v := .int (I (0, 0, 0) 3)) hx hb hw inK hown hK.1 hH (Or.inl ⟨rfl, rfl⟩) (by rw [gu_n _ _ (by simp)]; rfl) rfl 3 (by decide) (hw _ (gwd_0 (List.mem_of_getElem? (i := 44) rfl))) (fun _ h => h) rfl dK_create_35 ?_
      refine lv_iconst (v := 1) hx hb dK_create_38 (by decide) ?_
      refine lv_iadd hx hb dK_create_39 ?_
      rw [hmk, nI_1]
      refine va_callv (va_runI (As := [.int _]) (rest := [.ref Q6, .int (nI k), .ref (ad (4, 0, 0))]) ⟨hx, hb, hml, hown, hw⟩ (c_G_init l (c := c) (dm := fun n => gD k n ∨ n = (6, k, 0)) (V := gu (gV c ad k I J P LG LP) (6, k, 0) (.inr (2, [.int 0, .null, .null, .int 0, .int 0, .int 0]))) k a6 (Or.inr rfl) (gInit_hd) (by rw [gu_s])) (cwI 1 hw (gd_C (gwd_1 (List.mem_of_getElem? (i := 45) rfl))) rfl rfl rfl (hw _ (gwd_0 (List.mem_of_getElem? (i := 4) rfl))) (hw _ (gwd_1 (List.mem_of_getElem? (i := 43) rfl))) (hw _ (gwd_1 (List.mem_of_getElem? (i := 44) rfl))) rfl (by decide +kernel) ⟨Nat.le_of_ble_eq_true rfl, Nat.le_of_ble_eq_true rfl⟩) ⟨fun a U g mk h => ⟨h.1, h.2.1.calling, h.2.2⟩, fun U hU hW => ⟨rfl, hK.moved hW, by rw [hU]; exact hH⟩⟩ rfl rfl hl.1 rfl (lv_room (Nat.le_of_ble_eq_true rfl)) dK_create_40 ⟨Nat.le_of_ble_eq_true rfl, Nat.le_of_ble_eq_true rfl⟩) hS (fun _ _ h => h) (fun _ h => h) (fun ad2 t1 H locs ht _ hp hB _ _ hS => ?_)
      have hH := hB.2
      rw [ht] at hH
      have hold : ∀ n, gD k n → ad2 n = ad n := fun n hn => (hp n (Or.inl hn)).trans (hold1 n hn)
      have a6 : ad2 (6, k, 0) = Q6 := (hp _ (Or.inr rfl)).trans a6
      have a4 : ad2 (4, 0, 0) = ad (4, 0, 0) := hold _ ⟨rfl, rfl⟩
      have a0 : ad2 (0, 0, 0) = ad1 (0, 0, 0) := hp _ (Or.inl ⟨rfl, rfl⟩)
      rw [← a0] at hl
      rw [← a6, ← a4]
      refine gx_aast (N := 6) (f := fun g => if g < k then some (ad (6, g, 0)) else none) (n := (4, 0, 0)) (n' := (6, k, 0)) (vs := [.int (nI (k + 1)), .ref (ad2 (7, k, 0)), .ref (ad2 (8, k, 0)), .int 1, .int 0, .int 0]) hx hb hK.1 hH hS 3 2 (Or.inl (Or.inl ⟨rfl, rfl⟩)) (by simp only [gV0]; rw [if_neg (by simp), gu_n _ _ (by simp)]; rfl) rfl (Or.inl (Or.inr rfl)) (by simp [gV0, gE, gI0]) rfl k rfl (by omega) (by decide) dK_create_43 (fun H locs hH hS => ?_)
      have hH := gW_guest hLG hLP hPl hold hH
      refine lv_aload_n hx hb dK_create_44 rfl (lv_at hl 0 rfl) ?_
      refine lv_dup hx hb dK_create_45 rfl ?_
      refine s_get hx hb hw inK hown hK hH 3 (by decide) (hw _ (gwd_0 (List.mem_of_getElem? (i := 44) rfl))) (by first | exact ⟨rfl, rfl⟩ | exact ⟨by assumption, rfl⟩ | exact ⟨by assumption, by assumption⟩ | exact ⟨by omega, rfl⟩ | exact ⟨by omega, by omega⟩ | exact ⟨by decide, rfl⟩) rfl rfl rfl rfl dK_create_46 ?_
      refine lv_iconst (v := 1) hx hb dK_create_49 (by decide) ?_
      refine lv_iadd hx hb dK_create_50 ?_
      refine s_put hx hb hw inK tyK_ok nK hown hK hH hS 3 (by decide) (hw _ (gwd_0 (List.mem_of_getElem? (i := 44) rfl))) (by first | exact ⟨rfl, rfl⟩ | exact ⟨by assumption, rfl⟩ | exact ⟨by assumption, by assumption⟩ | exact ⟨by omega, rfl⟩ | exact ⟨by omega, by omega⟩ | exact ⟨by decide, rfl⟩) rfl rfl rfl rfl rfl rfl rfl (Nat.le_of_ble_eq_true rfl) rfl dK_create_51 (fun H locs hH hS => ?_)
      refine lv_aload_n hx hb dK_create_54 rfl (lv_at hl 0 rfl) ?_
      refine s_get hx hb hw inK hown hK hH 0 (by decide) (hw _ (gwd_0 (List.mem_of_getElem? (i := 41) rfl))) (by first | exact ⟨rfl, rfl⟩ | exact ⟨by assumption, rfl⟩ | exact ⟨by assumption, by assumption⟩ | exact ⟨by omega, rfl⟩ | exact ⟨by omega, by omega⟩ | exact ⟨by decide, rfl⟩) rfl rfl rfl rfl dK_create_55 ?_
      refine lv_iload_n hx hb dK_create_58 rfl (lv_at hl 1 rfl) ?_
      refine s_aaP hx hb hK hH _ (by first | rfl | assumption) (by first | assumption | decide | omega) dK_create_59 ?_
      refine lv_aload_n hx hb dK_create_60 rfl (lv_at hl 0 rfl) ?_
      refine s_get hx hb hw inK hown hK hH 3 (by decide) (hw _ (gwd_0 (List.mem_of_getElem? (i := 44) rfl))) (by first | exact ⟨rfl, rfl⟩ | exact ⟨by assumption, rfl⟩ | exact ⟨by assumption, by assumption⟩ | exact ⟨by omega, rfl⟩ | exact ⟨by omega, by omega⟩ | exact ⟨by decide, rfl⟩) rfl rfl rfl rfl dK_create_61 ?_
      refine s_cvE (va_runV (As := [.int _]) (rest := []) ⟨hx, hb, hml, hown, hw⟩ (c_P_becomeKeepers l  (by assumption)) (cwV 1 hw (gd_V (gwd_2 (List.mem_of_getElem? (i := 30) rfl)) (gwd_2 (List.mem_of_getElem? (i := 31) rfl)) (gwd_2 (List.mem_of_getElem? (i := 32) rfl)) (gwd_0 (List.mem_of_getElem? (i := 2) rfl)) (gwd_2 (List.mem_of_getElem? (i := 33) rfl))) rfl rfl rfl (by decide +kernel) ⟨Nat.le_of_ble_eq_true rfl, Nat.le_of_ble_eq_true rfl⟩) (gPre.V (n := (2, _, 0)) hK hH (by first | exact ⟨rfl, rfl⟩ | exact ⟨by assumption, rfl⟩ | exact ⟨by assumption, by assumption⟩ | exact ⟨by omega, rfl⟩ | exact ⟨by omega, by omega⟩ | exact ⟨by decide, rfl⟩) rfl rfl) rfl rfl hl.1 rfl (lv_room (Nat.le_of_ble_eq_true rfl)) dK_create_64 ⟨Nat.le_of_ble_eq_true rfl, Nat.le_of_ble_eq_true rfl⟩) hS (fun H locs hH hS => ?_)
      refine lv_aload_n hx hb dK_create_67 rfl (lv_at hl 0 rfl) ?_
      refine s_get hx hb hw inK hown hK hH 3 (by decide) (hw _ (gwd_0 (List.mem_of_getElem? (i := 44) rfl))) (by first | exact ⟨rfl, rfl⟩ | exact ⟨by assumption, rfl⟩ | exact ⟨by assumption, by assumption⟩ | exact ⟨by omega, rfl⟩ | exact ⟨by omega, by omega⟩ | exact ⟨by decide, rfl⟩) rfl rfl rfl rfl dK_create_68 ?_
      exact r_i hx hb hr hlk hK hH hS dK_create_71 (Or.inr (Or.inr ⟨h_1, h_2, by simp [sKeep_kp, iu_at, gNewI, hmk, nI_1], ad2, hold, by rw [cCreI, hi]; simp [iu_at, gNewI, hmk, nI_1]⟩))
    · skip
      refine W.widen (k := 7) (n := 88) (Nat.zero_le _) (Nat.zero_le _) ?_
      refine lv_bipush (v := -2) hx hb dK_create_19 (by decide) ?_
      exact r_i hx hb hr hlk hK hH hS dK_create_21 (Or.inr (Or.inl ⟨h_1, h_2, rfl, rfl⟩))
  · skip
    refine W.widen (k := 7) (n := 88) (Nat.zero_le _) (Nat.zero_le _) ?_
    refine lv_iconst (v := -1) hx hb dK_create_8 (by decide) ?_
    exact r_i hx hb hr hlk hK hH hS dK_create_9 (Or.inl ⟨h_1, rfl, rfl⟩)
