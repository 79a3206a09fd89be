theorem c_R_initH (l : Launch) {D : va_G} {c : Nat → ClassId} {sz : Nat} {ad : gN → Nat} {dm : gN → Prop} {V : gN → va_E} {h0 : Nat} {H : Heap} (n n2 : gN) (_ : gH D vwCl ad dm V (gA sz) H) (e0 : ad n = h0) (hn : dm n) (hV : V n = .inr (3, [.null, .int 0, .int 0, .int 0])) (hn2 : ¬ dm n2) : Met l yR_init wR_init { frames := 1, cells := 1, slots := 4, locals := 12 } (va_Pc [.ref h0] (gRB D c sz ad dm V)) (va_Qv (fun _ : Nat => True) (fun q => gRB D c sz (gu ad n2 q) (fun n' => dm n' ∨ n' = n2) (gu (gu V n2 (.inl (c 0, 4, .inl (fun _ => 0)))) n (.inr (3, [.ref q, .int 0, .int 0, .int (-1)])))) (gA sz)) 1 4 (gA sz) := c_R_init l n n2 e0 hn hV hn2
theorem c_P_initH (l : Launch) {D : va_G} {c : Nat → ClassId} {sz : Nat} {ad : gN → Nat} {dm : gN → Prop} {V : gN → va_E} {h0 : Nat} {H : Heap} (n n2 : gN) (_ : gH D vwCl ad dm V (gA sz) H) (e0 : ad n = h0) (hn : dm n) (hV : V n = .inr (1, [.null, .int 0, .int 0, .int 0, .int 0, .int 0])) (hn2 : ¬ dm n2) : Met l yP_init wP_init { frames := 1, cells := 1, slots := 4, locals := 12 } (va_Pc [.ref h0] (gRB D c sz ad dm V)) (va_Qv (fun _ : Nat => True) (fun q => gRB D c sz (gu ad n2 q) (fun n' => dm n' ∨ n' = n2) (gu (gu V n2 (.inl (c 0, 4, .inl (fun _ => 0)))) n (.inr (1, [.ref q, .int 0, .int 0, .int 0, .int 0, .int 0])))) (gA sz)) 1 4 (gA sz) := c_P_init l n n2 e0 hn hV hn2
/-- the names that a new guest brings -/
def gNm (g : Nat) (n : gN) : Prop := n = (7, g, 0) ∨ n = (8, g, 0) ∨ n = (9, g, 0) ∨ n = (10, g, 0) ∨ n = (9, g, 1) ∨ n = (10, g, 1)
def gI0 (x : Int32) (n : gN) : Nat → Int32 := fun f => if n.1 = 6 then (if f = 0 then x else if f = 3 then 1 else 0) else if n.1 = 9 then (if f = 3 then -1 else 0) else 0
def gV0 (c : Nat → ClassId) (ad : gN → Nat) (g : Nat) (x : Int32) (V : gN → va_E) : gN → va_E := fun n => if 6 ≤ n.1 ∧ n.1 ≤ 10 ∧ n.2.1 = g then gE c ad 0 (gI0 x n) (fun _ => 0) (fun _ _ => none) none none n else V n
set_option maxHeartbeats 4000000 in
set_option maxRecDepth 100000 in
theorem c_G_init (l : Launch) {D : va_G} {c : Nat → ClassId} {sz : Nat} {ad : gN → Nat} {dm : gN → Prop} {V : gN → va_E} {h0 : Nat} {x : Int32} (g : Nat) (e0 : ad (6, g, 0) = h0) (hn : dm (6, g, 0)) (hd : ∀ n, dm n → 6 ≤ n.1 → n.1 ≤ 10 → n.2.1 = g → n = (6, g, 0)) (hV : V (6, g, 0) = .inr (2, [.int 0, .null, .null, .int 0, .int 0, .int 0])) : Met l yG_init wG_init { frames := 2, cells := 6, slots := 82, locals := 32 } (va_Pc [.ref h0, .int x] (gRB D c sz ad dm V)) (va_Qv (fun ad2 : gN → Nat => ∀ n, dm n → ad2 n = ad n) (fun ad2 => gRB D c sz ad2 (fun n => dm n ∨ gNm g n) (gV0 c ad2 g x V)) (gA sz)) 6 82 (gA sz) := by
  refine Met.ofW (cc := cG_init) (maxL := 3) (ret := none) (by decide) rfl ?_
  intro p e s m args below meth cd s₁ B hml hv
  obtain ⟨rfl, hK, hH⟩ := hv
  have hx := B.exec
  have hb := B.bytes
  have hr := B.returns
  have hts := atoms_spec (ws := wG_init) B.pre
  have hw : ∀ w ∈ gWd, w.before _ s = true := fun w h => hts w (List.mem_cons_of_mem _ h)
  have hown : s.vm.findClass RG = some m.cls := findClass_of_methodNamed B.named
  have hlk := B.notSynchronized
  have hin : meth.name = "<init>" := (name_of_methodNamed B.named B.method).1
  have hS : va_S (gA sz) s.heap s.heap [] := va_S.rf
  have hl := lv_entry ([.ref h0, .int x]) (n := 3) (Nat.le_of_ble_eq_true rfl)
  rw [lg_entry_eq]
  generalize (lg_sl ([.ref h0, .int x]) ++ List.replicate (3 - (lg_sl ([.ref h0, .int x])).length) Slot.unset).toArray = ls at hl ⊢
  have hl : lv_has ls 3 [(0, .ref h0), (1, .int x)] := hl
  have hA := gH.sz hH hn
  have hd7 : ¬ dm (7, g, 0) := fun z => by have := hd _ z (by simp) (by simp) rfl; simp at this
  have hd8 : ¬ dm (8, g, 0) := fun z => by have := hd _ z (by simp) (by simp) rfl; simp at this
  have hd9 : ∀ v, ¬ dm (9, g, v) := fun v z => by have := hd _ z (by simp) (by simp) rfl; simp at this
  have hd10 : ∀ v, ¬ dm (10, g, v) := fun v z => by have := hd _ z (by simp) (by simp) rfl; simp at this
  rw [← e0] at hl
  refine lv_aload_n hx hb dG_init_0 rfl (lv_at hl 0 rfl) ?_
  refine W.objInit hx hb hown (hw _ (gwd_1 (List.mem_of_getElem? (i := 46) rfl))) (hw _ (gwd_0 (List.mem_of_getElem? (i := 12) rfl))) (hw _ (gwd_0 (List.mem_of_getElem? (i := 13) rfl))) rfl (by rw [hml]; exact hl.1) rfl dG_init_1 (Nat.le_of_ble_eq_true rfl) (Nat.le_of_ble_eq_true rfl) ?_
  refine W.eq (g2 := F0 m 4 ls []) rfl ?_
  refine lv_aload_n hx hb dG_init_4 rfl (lv_at hl 0 rfl) ?_
  refine lv_bipush (v := 64) hx hb dG_init_5 (by decide) ?_
  refine gx_newq (N' := 64) hx hb hown (hw _ (gwd_1 (List.mem_of_getElem? (i := 47) rfl))) hK.2.2.2.1 hK.1 hH hS hA (7, g, 0) (by simp [hn, hd7, hd8, hd9, hd10]) 2 rfl (by decide) (by decide) (by decide) (Nat.le_of_ble_eq_true rfl) (Nat.le_of_ble_eq_true rfl) dG_init_7 (fun Q7 H hH hS => ?_)
  have e1 : gu ad (7, g, 0) Q7 (6, g, 0) = ad (6, g, 0) := gu_n _ _ (by simp)
  rw [← e1] at hl
  rw [← e1]
  clear e1
  obtain ⟨ad1, hAD1⟩ : ∃ a, a = gu ad (7, g, 0) Q7 := ⟨_, rfl⟩
  rw [← hAD1] at hH hl
  rw [← hAD1]
  have a_7_g_0 : ad1 (7, g, 0) = Q7 := by rw [hAD1, gu_s]
  refine gx_putF (n := (6, g, 0)) (fs := [.int 0, .null, .null, .int 0, .int 0, .int 0]) (v := .ref Q7) (ty := .array (.object "GuestKeeper$Page")) hx hb hw inG tyG tyG_ok nG hown hK.1 hH hS (by simp [hn, hd7, hd8, hd9, hd10]) (by rw [gu_n _ _ (by simp)]; exact hV) rfl 1 (by decide) (hw _ (gwd_2 (List.mem_of_getElem? (i := 15) rfl))) (fun _ h => h) rfl hin rfl (by decide +kernel) rfl rfl (Nat.le_of_ble_eq_true rfl) dG_init_10 (fun H locs hH hS => ?_)
  refine lv_aload_n hx hb dG_init_13 rfl (lv_at hl 0 rfl) ?_
  refine lv_iconst (v := 2) hx hb dG_init_14 (by decide) ?_
  refine gx_newq (N' := 2) hx hb hown (hw _ (gwd_2 (List.mem_of_getElem? (i := 0) rfl))) hK.2.2.2.2.2 hK.1 hH hS hA (8, g, 0) (by simp [hn, hd7, hd8, hd9, hd10]) 4 rfl (by decide) (by decide) (by decide) (Nat.le_of_ble_eq_true rfl) (Nat.le_of_ble_eq_true rfl) dG_init_15 (fun Q8 H hH hS => ?_)
  have e1 : gu ad1 (8, g, 0) Q8 (6, g, 0) = ad1 (6, g, 0) := gu_n _ _ (by simp)
  rw [← e1] at hl
  rw [← e1]
  clear e1
  obtain ⟨ad2, hAD2⟩ : ∃ a, a = gu ad1 (8, g, 0) Q8 := ⟨_, rfl⟩
  rw [← hAD2] at hH hl
  rw [← hAD2]
  have a_7_g_0 : ad2 (7, g, 0) = Q7 := by rw [hAD2, gu_n _ _ (by simp)]; exact a_7_g_0
  have a_8_g_0 : ad2 (8, g, 0) = Q8 := by rw [hAD2, gu_s]
  refine gx_putF (n := (6, g, 0)) (fs := [.int 0, .ref Q7, .null, .int 0, .int 0, .int 0]) (v := .ref Q8) (ty := .array (.object "GuestKeeper$Processor")) hx hb hw inG tyG tyG_ok nG hown hK.1 hH hS (by simp [hn, hd7, hd8, hd9, hd10]) (by rw [gu_n _ _ (by simp), gu_s]; rfl) rfl 2 (by decide) (hw _ (gwd_2 (List.mem_of_getElem? (i := 17) rfl))) (fun _ h => h) rfl hin rfl (by decide +kernel) rfl rfl (Nat.le_of_ble_eq_true rfl) dG_init_18 (fun H locs hH hS => ?_)
  refine lv_aload_n hx hb dG_init_21 rfl (lv_at hl 0 rfl) ?_
  refine lv_iconst (v := 1) hx hb dG_init_22 (by decide) ?_
  refine gx_put (n := (6, g, 0)) (fs := [.int 0, .ref Q7, .ref Q8, .int 0, .int 0, .int 0]) (v := .int 1) (ty := .boolean) hx hb hw inG tyG tyG_ok nG hown hK.1 hH hS (by simp [hn, hd7, hd8, hd9, hd10]) (by rw [gu_s]; rfl) rfl 3 (by decide) (hw _ (gwd_2 (List.mem_of_getElem? (i := 19) rfl))) (fun _ h => h) rfl (by decide +kernel) rfl rfl (Nat.le_of_ble_eq_true rfl) dG_init_23 (fun H locs hH hS => ?_)
  refine lv_aload_n hx hb dG_init_26 rfl (lv_at hl 0 rfl) ?_
  refine lv_iload_n hx hb dG_init_27 rfl (lv_at hl 1 rfl) ?_
  refine gx_putF (n := (6, g, 0)) (fs := [.int 0, .ref Q7, .ref Q8, .int 1, .int 0, .int 0]) (v := .int x) (ty := .int) hx hb hw inG tyG tyG_ok nG hown hK.1 hH hS (by simp [hn, hd7, hd8, hd9, hd10]) (by rw [gu_s]; rfl) rfl 0 (by decide) (hw _ (gwd_2 (List.mem_of_getElem? (i := 14) rfl))) (fun _ h => h) rfl hin rfl (by decide +kernel) rfl rfl (Nat.le_of_ble_eq_true rfl) dG_init_28 (fun H locs hH hS => ?_)
  rw [gu_gu, gu_gu] at hH
  refine lv_iconst (v := 0) hx hb dG_init_31 (by decide) ?_
  refine lv_istore_n hx hb dG_init_32 rfl hl (by decide) rfl (fun ls hl => ?_)
  have hl : lv_has ls 3 [(2, .int 0), (0, .ref (ad2 (6, g, 0))), (1, .int x)] := hl
  refine lv_iload_n hx hb dG_init_33 rfl (lv_at hl 0 rfl) ?_
  refine lv_iconst (v := 2) hx hb dG_init_34 (by decide) ?_
  refine lv_icmp_ge hx hb dG_init_35 rfl (fun h => absurd h (by decide)) (fun _ => ?_)
  refine lv_aload_n hx hb dG_init_38 rfl (lv_at hl 1 rfl) ?_
  refine gx_get (ci := 2) (n := (6, g, 0)) (fs := [.int x, .ref Q7, .ref Q8, .int 1, .int 0, .int 0]) (v := .ref Q8) hx hb hw inG hown hK.1 hH (by simp [hn, hd7, hd8, hd9, hd10]) (by simp [gu]) rfl 2 (by decide) (hw _ (gwd_2 (List.mem_of_getElem? (i := 17) rfl))) (fun _ h => h) rfl dG_init_39 ?_
  refine lv_iload_n hx hb dG_init_42 rfl (lv_at hl 0 rfl) ?_
  refine gx_new (ci := 3) (fs := [.null, .int 0, .int 0, .int 0]) hx hb hw inR tyR tyR_ok hown (hw _ (gwd_2 (List.mem_of_getElem? (i := 0) rfl))) (hw _ (gwd_2 (List.mem_of_getElem? (i := 1) rfl))) (hw _ (gwd_0 (List.mem_of_getElem? (i := 5) rfl))) hK.1 hH hS hA (9, g, 0) (by simp [hn, hd7, hd8, hd9, hd10]) rfl (fun j hj => by rcases (show j = 0 ∨ j = 1 ∨ j = 2 ∨ j = 3 by omega) with rfl | rfl | rfl | rfl <;> rfl) (Nat.le_of_ble_eq_true rfl) (Nat.le_of_ble_eq_true rfl) dG_init_43 (fun Q9_0 H hH hS => ?_)
  have e1 : gu ad2 (9, g, 0) Q9_0 (6, g, 0) = ad2 (6, g, 0) := gu_n _ _ (by simp)
  rw [← e1] at hl
  clear e1
  obtain ⟨ad3, hAD3⟩ : ∃ a, a = gu ad2 (9, g, 0) Q9_0 := ⟨_, rfl⟩
  rw [← hAD3] at hH hl
  have a_7_g_0 : ad3 (7, g, 0) = Q7 := by rw [hAD3, gu_n _ _ (by simp)]; exact a_7_g_0
  have a_8_g_0 : ad3 (8, g, 0) = Q8 := by rw [hAD3, gu_n _ _ (by simp)]; exact a_8_g_0
  have a_9_g_0 : ad3 (9, g, 0) = Q9_0 := by rw [hAD3, gu_s]
  refine lv_dup hx hb dG_init_46 rfl ?_
  refine va_callv (va_runIN (As := []) (rest := [.ref Q9_0, .int 0, .ref Q8]) ⟨hx, hb, hml, hown, hw⟩ (c_R_initH l (c := c) (9, g, 0) (10, g, 0) hH a_9_g_0 (by simp) (by rw [gu_s]) (by simp [hn, hd7, hd8, hd9, hd10])) ⟨va_cnB 0 hw (gd_C (gwd_2 (List.mem_of_getElem? (i := 3) rfl))) rfl rfl rfl hK.2.2.1 (hw _ (gwd_0 (List.mem_of_getElem? (i := 5) rfl))) (by decide +kernel) ⟨Nat.le_of_ble_eq_true rfl, Nat.le_of_ble_eq_true rfl⟩, rfl, (hw _ (gwd_2 (List.mem_of_getElem? (i := 2) rfl)))⟩ ⟨fun a U g mk h => ⟨h.1, h.2.1.calling, h.2.2⟩, fun U hU hW => ⟨rfl, hK.moved hW, by rw [hU]; exact hH⟩⟩ rfl rfl hl.1 rfl (lv_room (Nat.le_of_ble_eq_true rfl)) dG_init_47 ⟨Nat.le_of_ble_eq_true rfl, Nat.le_of_ble_eq_true rfl⟩) hS (fun _ _ h => h) (fun _ h => h) (fun Q10_0 t1 H locs ht _ _ hB _ _ hS => ?_)
  have hH := hB.2
  rw [ht] at hH
  have e1 : gu ad3 (10, g, 0) Q10_0 (6, g, 0) = ad3 (6, g, 0) := gu_n _ _ (by simp)
  rw [← e1] at hl
  clear e1
  obtain ⟨ad4, hAD4⟩ : ∃ a, a = gu ad3 (10, g, 0) Q10_0 := ⟨_, rfl⟩
  rw [← hAD4] at hH hl
  have a_7_g_0 : ad4 (7, g, 0) = Q7 := by rw [hAD4, gu_n _ _ (by simp)]; exact a_7_g_0
  have a_8_g_0 : ad4 (8, g, 0) = Q8 := by rw [hAD4, gu_n _ _ (by simp)]; exact a_8_g_0
  have a_9_g_0 : ad4 (9, g, 0) = Q9_0 := by rw [hAD4, gu_n _ _ (by simp)]; exact a_9_g_0
  have a_10_g_0 : ad4 (10, g, 0) = Q10_0 := by rw [hAD4, gu_s]
  rw [← a_9_g_0, ← a_8_g_0]
  refine gx_aast (N := 2) (f := (fun _ => none)) (n := (8, g, 0)) (n' := (9, g, 0)) hx hb hK.1 hH hS 4 3 (by simp [hn, hd7, hd8, hd9, hd10]) (by simp [gu]) rfl (by simp [hn, hd7, hd8, hd9, hd10]) (by rw [gu_s]) rfl 0 rfl (by decide) (by decide) dG_init_50 (fun H locs hH hS => ?_)
  rw [a_9_g_0] at hH
  refine lv_iinc (k := 0) (v := 1) hx hb dG_init_51 hl rfl (by decide) (by decide) rfl (fun ls hl => ?_)
  refine lv_goto hx hb dG_init_54 rfl ?_
  have hl : lv_has ls 3 [(2, .int 1), (0, .ref (ad4 (6, g, 0))), (1, .int x)] := hl
  refine lv_iload_n hx hb dG_init_33 rfl (lv_at hl 0 rfl) ?_
  refine lv_iconst (v := 2) hx hb dG_init_34 (by decide) ?_
  refine lv_icmp_ge hx hb dG_init_35 rfl (fun h => absurd h (by decide)) (fun _ => ?_)
  refine lv_aload_n hx hb dG_init_38 rfl (lv_at hl 1 rfl) ?_
  refine gx_get (ci := 2) (n := (6, g, 0)) (fs := [.int x, .ref Q7, .ref Q8, .int 1, .int 0, .int 0]) (v := .ref Q8) hx hb hw inG hown hK.1 hH (by simp [hn, hd7, hd8, hd9, hd10]) (by simp [gu]) rfl 2 (by decide) (hw _ (gwd_2 (List.mem_of_getElem? (i := 17) rfl))) (fun _ h => h) rfl dG_init_39 ?_
  refine lv_iload_n hx hb dG_init_42 rfl (lv_at hl 0 rfl) ?_
  refine gx_new (ci := 3) (fs := [.null, .int 0, .int 0, .int 0]) hx hb hw inR tyR tyR_ok hown (hw _ (gwd_2 (List.mem_of_getElem? (i := 0) rfl))) (hw _ (gwd_2 (List.mem_of_getElem? (i := 1) rfl))) (hw _ (gwd_0 (List.mem_of_getElem? (i := 5) rfl))) hK.1 hH hS hA (9, g, 1) (by simp [hn, hd7, hd8, hd9, hd10]) rfl (fun j hj => by rcases (show j = 0 ∨ j = 1 ∨ j = 2 ∨ j = 3 by omega) with rfl | rfl | rfl | rfl <;> rfl) (Nat.le_of_ble_eq_true rfl) (Nat.le_of_ble_eq_true rfl) dG_init_43 (fun Q9_1 H hH hS => ?_)
  have e1 : gu ad4 (9, g, 1) Q9_1 (6, g, 0) = ad4 (6, g, 0) := gu_n _ _ (by simp)
  rw [← e1] at hl
  clear e1
  obtain ⟨ad5, hAD5⟩ : ∃ a, a = gu ad4 (9, g, 1) Q9_1 := ⟨_, rfl⟩
  rw [← hAD5] at hH hl
  have a_7_g_0 : ad5 (7, g, 0) = Q7 := by rw [hAD5, gu_n _ _ (by simp)]; exact a_7_g_0
  have a_8_g_0 : ad5 (8, g, 0) = Q8 := by rw [hAD5, gu_n _ _ (by simp)]; exact a_8_g_0
  have a_9_g_0 : ad5 (9, g, 0) = Q9_0 := by rw [hAD5, gu_n _ _ (by simp)]; exact a_9_g_0
  have a_10_g_0 : ad5 (10, g, 0) = Q10_0 := by rw [hAD5, gu_n _ _ (by simp)]; exact a_10_g_0
  have a_9_g_1 : ad5 (9, g, 1) = Q9_1 := by rw [hAD5, gu_s]
  refine lv_dup hx hb dG_init_46 rfl ?_
  refine va_callv (va_runIN (As := []) (rest := [.ref Q9_1, .int 1, .ref Q8]) ⟨hx, hb, hml, hown, hw⟩ (c_R_initH l (c := c) (9, g, 1) (10, g, 1) hH a_9_g_1 (by simp) (by rw [gu_s]) (by simp [hn, hd7, hd8, hd9, hd10])) ⟨va_cnB 0 hw (gd_C (gwd_2 (List.mem_of_getElem? (i := 3) rfl))) rfl rfl rfl hK.2.2.1 (hw _ (gwd_0 (List.mem_of_getElem? (i := 5) rfl))) (by decide +kernel) ⟨Nat.le_of_ble_eq_true rfl, Nat.le_of_ble_eq_true rfl⟩, rfl, (hw _ (gwd_2 (List.mem_of_getElem? (i := 2) rfl)))⟩ ⟨fun a U g mk h => ⟨h.1, h.2.1.calling, h.2.2⟩, fun U hU hW => ⟨rfl, hK.moved hW, by rw [hU]; exact hH⟩⟩ rfl rfl hl.1 rfl (lv_room (Nat.le_of_ble_eq_true rfl)) dG_init_47 ⟨Nat.le_of_ble_eq_true rfl, Nat.le_of_ble_eq_true rfl⟩) hS (fun _ _ h => h) (fun _ h => h) (fun Q10_1 t1 H locs ht _ _ hB _ _ hS => ?_)
  have hH := hB.2
  rw [ht] at hH
  have e1 : gu ad5 (10, g, 1) Q10_1 (6, g, 0) = ad5 (6, g, 0) := gu_n _ _ (by simp)
  rw [← e1] at hl
  clear e1
  obtain ⟨ad6, hAD6⟩ : ∃ a, a = gu ad5 (10, g, 1) Q10_1 := ⟨_, rfl⟩
  rw [← hAD6] at hH hl
  have a_7_g_0 : ad6 (7, g, 0) = Q7 := by rw [hAD6, gu_n _ _ (by simp)]; exact a_7_g_0
  have a_8_g_0 : ad6 (8, g, 0) = Q8 := by rw [hAD6, gu_n _ _ (by simp)]; exact a_8_g_0
  have a_9_g_0 : ad6 (9, g, 0) = Q9_0 := by rw [hAD6, gu_n _ _ (by simp)]; exact a_9_g_0
  have a_10_g_0 : ad6 (10, g, 0) = Q10_0 := by rw [hAD6, gu_n _ _ (by simp)]; exact a_10_g_0
  have a_9_g_1 : ad6 (9, g, 1) = Q9_1 := by rw [hAD6, gu_n _ _ (by simp)]; exact a_9_g_1
  have a_10_g_1 : ad6 (10, g, 1) = Q10_1 := by rw [hAD6, gu_s]
  rw [← a_9_g_1, ← a_8_g_0]
  refine gx_aast (N := 2) (f := (va_up (fun _ => none) 0 (some Q9_0))) (n := (8, g, 0)) (n' := (9, g, 1)) hx hb hK.1 hH hS 4 3 (by simp [hn, hd7, hd8, hd9, hd10]) (by simp [gu]) rfl (by simp [hn, hd7, hd8, hd9, hd10]) (by rw [gu_s]) rfl 1 rfl (by decide) (by decide) dG_init_50 (fun H locs hH hS => ?_)
  rw [a_9_g_1] at hH
  refine lv_iinc (k := 0) (v := 2) hx hb dG_init_51 hl rfl (by decide) (by decide) rfl (fun ls hl => ?_)
  refine lv_goto hx hb dG_init_54 rfl ?_
  have hl : lv_has ls 3 [(2, .int 2), (0, .ref (ad6 (6, g, 0))), (1, .int x)] := hl
  refine lv_iload_n hx hb dG_init_33 rfl (lv_at hl 0 rfl) ?_
  refine lv_iconst (v := 2) hx hb dG_init_34 (by decide) ?_
  refine lv_icmp_ge hx hb dG_init_35 rfl (fun _ => ?_) (fun h => absurd h (by decide))
  have hold : ∀ n, dm n → ad6 n = ad n := by
    intro n hnn
    obtain ⟨a, b, d⟩ := n
    have h7 : ¬ (a, b, d) = (7, g, 0) := fun z => hd7 (z ▸ hnn)
    have h8 : ¬ (a, b, d) = (8, g, 0) := fun z => hd8 (z ▸ hnn)
    have h9 : ∀ v, ¬ (a, b, d) = (9, g, v) := fun v z => hd9 v (z ▸ hnn)
    have h10 : ∀ v, ¬ (a, b, d) = (10, g, v) := fun v z => hd10 v (z ▸ hnn)
    rw [hAD6, hAD5, hAD4, hAD3, hAD2, hAD1, gu_n _ _ (h10 1), gu_n _ _ (h9 1), gu_n _ _ (h10 0), gu_n _ _ (h9 0), gu_n _ _ h8, gu_n _ _ h7]
  refine W.vret hx hb hr (fun t ht hW => ⟨⟨ad6, rfl, hold, hK.moved hW, ?_⟩, hS.F ht⟩) hS.2.2 dG_init_57 hlk
  rw [ht]
  clear hAD6 hAD5 hAD4 hAD3 hAD2 hAD1
  refine gH.congr hH (fun n => ?_) (fun _ _ => rfl) (fun n hnn => ?_)
  · simp only [gNm, or_assoc]
  · have hnn : dm n ∨ gNm g n := by simpa only [gNm, or_assoc] using hnn
    rcases hnn with hnn | hnn
    · by_cases h6 : n = (6, g, 0)
      · subst h6
        simp [gV0, gE, gI0, gu, a_7_g_0, a_8_g_0]
      · have hc : ¬ (6 ≤ n.1 ∧ n.1 ≤ 10 ∧ n.2.1 = g) := fun z => h6 (hd n hnn z.1 z.2.1 z.2.2)
        have h7 : ¬ n = (7, g, 0) := fun z => hd7 (z ▸ hnn)
        have h8 : ¬ n = (8, g, 0) := fun z => hd8 (z ▸ hnn)
        have h9 : ∀ v, ¬ n = (9, g, v) := fun v z => hd9 v (z ▸ hnn)
        have h10 : ∀ v, ¬ n = (10, g, v) := fun v z => hd10 v (z ▸ hnn)
        simp [gV0, hc, gu, h6, h7, h8, h9, h10]
    · unfold gNm at hnn
      rcases hnn with rfl | rfl | rfl | rfl | rfl | rfl
      · simp [gV0, gE, gu]
      · simp only [gV0, gu]
        simp
        simp only [gE]
        congr 4
        funext v
        by_cases hv1 : v = 1
        · subst hv1; simp [va_up, a_9_g_1]
        · by_cases hv0 : v = 0
          · subst hv0; simp [va_up, a_9_g_0]
          · have hv2 : ¬ v < 2 := by omega
            simp [va_up, hv0, hv1, hv2]
      · simp [gV0, gE, gI0, gu, a_10_g_0]
      · simp [gV0, gE, gu]
        funext f
        simp [gI0]
      · simp [gV0, gE, gI0, gu, a_10_g_1]
      · simp [gV0, gE, gu]
        funext f
        simp [gI0]
