def kD (j : Nat) (n : gN) : Prop := n = (0, 0, 0) ∨ n = (1, 0, 0) ∨ (n.1 = 2 ∧ n.2.1 < j ∧ n.2.2 = 0) ∨ (n.1 = 3 ∧ n.2.1 < j ∧ n.2.2 = 0)
def kV (c : Nat → ClassId) (ad : gN → Nat) (j : Nat) (n : gN) : va_E := match n with
  | (0, _, _) => .inr (0, [.ref (ad (1, 0, 0)), .null, .null, .int 0, .int 0, .int 0, .null, .null])
  | (1, _, _) => .inl (c 2, 24, gRa (fun p => if p < j then some (ad (2, p, 0)) else none))
  | (2, p, _) => .inr (1, [.ref (ad (3, p, 0)), .int 0, .int 0, .int 0, .int 0, .int 0])
  | (3, _, _) => .inl (c 0, 4, .inl (fun _ => 0))
  | _ => .inr (0, [])
theorem kD_up {j : Nat} (n : gN) : kD (j + 1) n ↔ ((kD j n ∨ n = (2, j, 0)) ∨ n = (3, j, 0)) := by
  obtain ⟨a, b, d⟩ := n
  simp only [kD, Prod.mk.injEq]
  omega
set_option maxHeartbeats 4000000 in
theorem kH_up {D : va_G} {c : Nat → ClassId} {ad ad3 : gN → Nat} {j Q2 Q3 : Nat} {A : Nat → Prop} {H : Heap} {e2 : va_E} (h3 : ad3 = gu (gu ad (2, j, 0) Q2) (3, j, 0) Q3)
    (hH : gH D vwCl ad3 (fun n => (kD j n ∨ n = (2, j, 0)) ∨ n = (3, j, 0)) (gu (gu (gu (gu (kV c ad j) (2, j, 0) e2) (3, j, 0) (.inl (c 0, 4, .inl (fun _ => 0)))) (2, j, 0) (.inr (1, [.ref Q3, .int 0, .int 0, .int 0, .int 0, .int 0]))) (1, 0, 0) (.inl (c 2, 24, gRa (va_up (fun p => if p < j then some (ad (2, p, 0)) else none) j (some (ad3 (2, j, 0))))))) A H) : gH D vwCl ad3 (kD (j + 1)) (kV c ad3 (j + 1)) A H := by
  have h1 : ad3 (1, 0, 0) = ad (1, 0, 0) := by rw [h3, gu_n _ _ (by simp), gu_n _ _ (by simp)]
  have h2 : ∀ p, ¬ p = j → ad3 (2, p, 0) = ad (2, p, 0) := fun p hp => by rw [h3, gu_n _ _ (by simp), gu_n _ _ (by simp [hp])]
  have h33 : ∀ p, ¬ p = j → ad3 (3, p, 0) = ad (3, p, 0) := fun p hp => by rw [h3, gu_n _ _ (by simp [hp]), gu_n _ _ (by simp)]
  have h3j : ad3 (3, j, 0) = Q3 := by rw [h3, gu_s]
  refine gH.congr hH kD_up (fun _ _ => rfl) (fun n hn => ?_)
  rcases hn with ((rfl | rfl | hn | hn) | rfl) | rfl
  · rw [gu_n _ _ (by simp), gu_n _ _ (by simp), gu_n _ _ (by simp), gu_n _ _ (by simp)]
    simp only [kV]
    rw [h1]
  · rw [gu_s]
    simp only [kV]
    congr 4
    funext p
    by_cases hp : p = j
    · subst hp; simp [va_up]
    · by_cases hp2 : p < j
      · have hp3 : p < j + 1 := by omega
        simp only [va_up, hp, hp2, hp3, if_true, if_false]
        rw [h2 p hp]
      · have hp3 : ¬ p < j + 1 := by omega
        simp only [va_up, hp, hp2, hp3, if_false]
  · obtain ⟨a, b, d⟩ := n
    obtain ⟨h, hb, hd⟩ := hn
    dsimp only at h hb hd
    subst h; subst hd
    have hbj : ¬ b = j := by omega
    rw [gu_n _ _ (by simp), gu_n _ _ (by simp [hbj]), gu_n _ _ (by simp), gu_n _ _ (by simp [hbj])]
    simp only [kV]
    rw [h33 b hbj]
  · obtain ⟨a, b, d⟩ := n
    obtain ⟨h, hb, hd⟩ := hn
    dsimp only at h hb hd
    subst h; subst hd
    have hbj : ¬ b = j := by omega
    rw [gu_n _ _ (by simp), gu_n _ _ (by simp), gu_n _ _ (by simp [hbj]), gu_n _ _ (by simp)]
    rfl
  · rw [gu_n _ _ (by simp), gu_s]
    simp only [kV]
    rw [h3j]
  · rw [gu_n _ _ (by simp), gu_n _ _ (by simp), gu_s]
    rfl
set_option maxHeartbeats 4000000 in
set_option maxRecDepth 100000 in
theorem c_K_init (l : Launch) {D : va_G} {c : Nat → ClassId} {sz : Nat} {ad : gN → Nat} {dm : gN → Prop} {V : gN → va_E} {h0 : Nat} (e0 : ad (0, 0, 0) = h0) (hd : ∀ n, dm n ↔ n = (0, 0, 0)) (hV : V (0, 0, 0) = .inr (0, [.null, .null, .null, .int 0, .int 0, .int 0, .null, .null])) : Met l yK_init wK_init { frames := 2, cells := 51, slots := 274, locals := 32 } (va_Pc [.ref h0] (gRB D c sz ad dm V)) (va_Qv (fun ad2 : gN → Nat => ad2 (0, 0, 0) = h0) (fun ad2 => gRB D c sz ad2 (fun n => gD 0 n ∧ n.1 < 11) (gV c ad2 0 (fun _ _ => 0) (fun _ _ => 0) (fun _ _ => none) none none)) (gA sz)) 51 274 (gA sz) := by
  refine Met.ofW (cc := cK_init) (maxL := 2) (ret := none) (by decide) rfl ?_
  intro p e s m args below meth cd s₁ B hml hv
  obtain ⟨rfl, hK, hH⟩ := hv
  have hx := B.exec
  have hb := B.bytes
  have hr := B.returns
  have hts := atoms_spec (ws := wK_init) B.pre
  have hw : ∀ w ∈ gWd, w.before _ s = true := fun w h => hts w (List.mem_cons_of_mem _ h)
  have hown : s.vm.findClass RK = some m.cls := findClass_of_methodNamed B.named
  have hlk := B.notSynchronized
  have hin : meth.name = "<init>" := (name_of_methodNamed B.named B.method).1
  have hS : va_S (gA sz) s.heap s.heap [] := va_S.rf
  have hl := lv_entry ([.ref h0]) (n := 2) (Nat.le_of_ble_eq_true rfl)
  rw [lg_entry_eq]
  generalize (lg_sl ([.ref h0]) ++ List.replicate (2 - (lg_sl ([.ref h0])).length) Slot.unset).toArray = ls at hl ⊢
  have hl : lv_has ls 2 [(0, .ref h0)] := hl
  have hn : dm (0, 0, 0) := (hd _).mpr rfl
  have hA := gH.sz hH hn
  have fin : ∀ (ad1 : gN → Nat) (ls : Array Slot) (H : Heap) (locs : List Loc), ad1 (0, 0, 0) = h0 → lv_has ls 2 [(0, .ref h0)] → gH D vwCl ad1 (kD 24) (kV c ad1 24) (gA sz) H → va_S (gA sz) s.heap H locs → W p l e (headSpec wK_init { frames := 2, cells := 51, slots := 274, locals := 32 }).room s m ([.ref h0] : List Value).toArray below meth cd H locs 49 264 (MQ below (va_Qv (fun ad2 : gN → Nat => ad2 (0, 0, 0) = h0) (fun ad2 => gRB D c sz ad2 (fun n => gD 0 n ∧ n.1 < 11) (gV c ad2 0 (fun _ _ => 0) (fun _ _ => 0) (fun _ _ => none) none none)) (gA sz)) ([.ref h0] : List Value).toArray s 51 274 (gA sz)) (F0 m 40 ls []) := by
    intro ad1 ls H locs a0 hl hH hS
    rw [← a0] at hl
    have hfr : ∀ i, ¬ kD 24 (4, i, 0) := fun i z => by simp [kD] at z
    have hfr5 : ∀ i, ¬ kD 24 (5, i, 0) := fun i z => by simp [kD] at z
    refine lv_aload_n hx hb dK_init_40 rfl (lv_at hl 0 rfl) ?_
    refine lv_bipush (v := 6) hx hb dK_init_41 (by decide) ?_
    refine gx_newq (N' := 6) hx hb hown (hw _ (gwd_0 (List.mem_of_getElem? (i := 40) rfl))) hK.2.2.2.2.1 hK.1 hH hS hA (4, 0, 0) (hfr 0) 3 rfl (by decide) (by decide) (by decide) (Nat.le_of_ble_eq_true rfl) (Nat.le_of_ble_eq_true rfl) dK_init_43 (fun Q4 H hH hS => ?_)
    have b0 : gu ad1 (4, 0, 0) Q4 (0, 0, 0) = ad1 (0, 0, 0) := gu_n _ _ (by simp)
    rw [← b0] at hl
    rw [← b0]
    refine gx_putF (n := (0, 0, 0)) (fs := [.ref (ad1 (1, 0, 0)), .null, .null, .int 0, .int 0, .int 0, .null, .null]) (v := .ref Q4) (ty := .array (.object "GuestKeeper$Guest")) hx hb hw inK tyK tyK_ok nK hown hK.1 hH hS (Or.inl (Or.inl rfl)) (by rw [gu_n _ _ (by simp)]; rfl) rfl 1 (by decide) (hw _ (gwd_0 (List.mem_of_getElem? (i := 42) rfl))) (fun _ h => h) rfl hin rfl (by decide +kernel) rfl rfl (Nat.le_of_ble_eq_true rfl) dK_init_46 (fun H locs hH hS => ?_)
    refine lv_aload_n hx hb dK_init_49 rfl (lv_at hl 0 rfl) ?_
    refine lv_iconst (v := 4) hx hb dK_init_50 (by decide) ?_
    refine gx_newa (atype := .int) (ty := .int) (N' := 4) (a0 := (4, .inl (fun _ => 0))) hx hb (hw _ (gwd_0 (List.mem_of_getElem? (i := 39) rfl))) rfl hK.1 hH hS hA (5, 0, 0) (fun z => z.elim (hfr5 0) (fun z => by simp at z)) 0 rfl (fun _ h1 h2 => ra_int h1 h2) (fun _ => rfl) (by decide) (by decide) (by decide) (Nat.le_of_ble_eq_true rfl) (Nat.le_of_ble_eq_true rfl) dK_init_51 (fun Q5 H hH hS => ?_)
    have b1 : gu (gu ad1 (4, 0, 0) Q4) (5, 0, 0) Q5 (0, 0, 0) = gu ad1 (4, 0, 0) Q4 (0, 0, 0) := gu_n _ _ (by simp)
    rw [← b1] at hl
    rw [← b1]
    refine gx_putF (n := (0, 0, 0)) (fs := [.ref (ad1 (1, 0, 0)), .ref Q4, .null, .int 0, .int 0, .int 0, .null, .null]) (v := .ref Q5) (ty := .array .int) hx hb hw inK tyK tyK_ok nK hown hK.1 hH hS (Or.inl (Or.inl (Or.inl rfl))) (by rw [gu_n _ _ (by simp), gu_s]; rfl) rfl 2 (by decide) (hw _ (gwd_0 (List.mem_of_getElem? (i := 43) rfl))) (fun _ h => h) rfl hin rfl (by decide +kernel) rfl rfl (Nat.le_of_ble_eq_true rfl) dK_init_53 (fun H locs hH hS => ?_)
    have c0 : gu (gu ad1 (4, 0, 0) Q4) (5, 0, 0) Q5 (0, 0, 0) = h0 := b1.trans (b0.trans a0)
    generalize hAD : gu (gu ad1 (4, 0, 0) Q4) (5, 0, 0) Q5 = ad2 at hH c0
    refine W.vret hx hb hr (fun t ht hW => ⟨⟨ad2, rfl, c0, hK.moved hW, ?_⟩, hS.F ht⟩) hS.2.2 dK_init_56 hlk
    rw [ht]
    have o1 : ∀ a b d, ¬ a = 4 → ¬ a = 5 → ad2 (a, b, d) = ad1 (a, b, d) := fun a b d h4 h5 => by rw [← hAD, gu_n _ _ (by simp [h5]), gu_n _ _ (by simp [h4])]
    have o4 : ad2 (4, 0, 0) = Q4 := by rw [← hAD, gu_n _ _ (by simp), gu_s]
    have o5 : ad2 (5, 0, 0) = Q5 := by rw [← hAD, gu_s]
    refine gH.congr hH (fun n => ?_) (fun _ _ => rfl) (fun n hnn => ?_)
    · obtain ⟨a, b, d⟩ := n
      match a with
      | 0 => simp [gD, kD]
      | 1 => simp [gD, kD]
      | 2 => simp [gD, kD]
      | 3 => simp [gD, kD]
      | 4 => simp [gD, kD]
      | 5 => simp [gD, kD]
      | 6 => simp [gD, kD]
      | 7 => simp [gD, kD]
      | 8 => simp [gD, kD]
      | 9 => simp [gD, kD]
      | 10 => simp [gD, kD]
      | a + 11 => simp [gD, kD]
    · rcases hnn with ((rfl | rfl | hnn | hnn) | rfl) | rfl
      · rw [gu_s]
        simp only [gV, gE]
        rw [o1 1 0 0 (by decide) (by decide), o4, o5]
        rfl
      · rw [gu_n _ _ (by simp), gu_n _ _ (by simp), gu_n _ _ (by simp), gu_n _ _ (by simp)]
        simp only [gV, gE, kV]
        congr 4
        funext p
        rw [o1 2 p 0 (by decide) (by decide)]
      · obtain ⟨a, b, d⟩ := n
        obtain ⟨h, hb1, hd1⟩ := hnn
        dsimp only at h hb1 hd1
        subst h; subst hd1
        rw [gu_n _ _ (by simp), gu_n _ _ (by simp), gu_n _ _ (by simp), gu_n _ _ (by simp)]
        simp only [gV, gE, kV]
        rw [o1 3 b 0 (by decide) (by decide)]
      · obtain ⟨a, b, d⟩ := n
        obtain ⟨h, hb1, hd1⟩ := hnn
        dsimp only at h hb1 hd1
        subst h; subst hd1
        rw [gu_n _ _ (by simp), gu_n _ _ (by simp), gu_n _ _ (by simp), gu_n _ _ (by simp)]
        rfl
      · rw [gu_n _ _ (by simp), gu_n _ _ (by simp), gu_n _ _ (by simp), gu_s]
        simp [gV, gE]
      · rw [gu_n _ _ (by simp), gu_s]
        rfl
  have key : ∀ (n j : Nat) (ad1 : gN → Nat) (ls : Array Slot) (H : Heap) (locs : List Loc), j + n = 24 → ad1 (0, 0, 0) = h0 → lv_has ls 2 [(1, .int (nI j)), (0, .ref h0)] → gH D vwCl ad1 (kD j) (kV c ad1 j) (gA sz) H → va_S (gA sz) s.heap H locs → W p l e (headSpec wK_init { frames := 2, cells := 51, slots := 274, locals := 32 }).room s m ([.ref h0] : List Value).toArray below meth cd H locs (1 + 2 * j) (24 + 10 * j) (MQ below (va_Qv (fun ad2 : gN → Nat => ad2 (0, 0, 0) = h0) (fun ad2 => gRB D c sz ad2 (fun n => gD 0 n ∧ n.1 < 11) (gV c ad2 0 (fun _ _ => 0) (fun _ _ => 0) (fun _ _ => none) none none)) (gA sz)) ([.ref h0] : List Value).toArray s 51 274 (gA sz)) (F0 m 15 ls []) := by
    intro n
    induction n with
    | zero =>
      intro j ad1 ls H locs hj a0 hl hH hS
      obtain rfl : j = 24 := by omega
      refine lv_iload_n hx hb dK_init_15 rfl (lv_at hl 0 rfl) ?_
      refine lv_bipush (v := 24) hx hb dK_init_16 (by decide) ?_
      refine lv_icmp_ge hx hb dK_init_18 rfl (fun _ => ?_) (fun h => absurd (by decide) h)
      exact fin ad1 ls H locs a0 (lv_sub hl [1] rfl) hH hS
    | succ n ih =>
      intro j ad1 ls H locs hj a0 hl hH hS
      have hf2 : ¬ kD j (2, j, 0) := fun z => by simp [kD] at z
      have hf3 : ¬ kD j (3, j, 0) := fun z => by simp [kD] at z
      rw [← a0] at hl
      refine lv_iload_n hx hb dK_init_15 rfl (lv_at hl 0 rfl) ?_
      refine lv_bipush (v := 24) hx hb dK_init_16 (by decide) ?_
      refine lv_icmp_ge hx hb dK_init_18 rfl (fun h => absurd h (nI_ge (b := 24) (show j < 24 by omega) (by decide))) (fun _ => ?_)
      refine lv_aload_n hx hb dK_init_21 rfl (lv_at hl 1 rfl) ?_
      refine gx_get (ci := 0) (n := (0, 0, 0)) (fs := [.ref (ad1 (1, 0, 0)), .null, .null, .int 0, .int 0, .int 0, .null, .null]) (v := .ref (ad1 (1, 0, 0))) hx hb hw inK hown hK.1 hH (Or.inl rfl) rfl rfl 0 (by decide) (hw _ (gwd_0 (List.mem_of_getElem? (i := 41) rfl))) (fun _ h => h) rfl dK_init_22 ?_
      refine lv_iload_n hx hb dK_init_25 rfl (lv_at hl 0 rfl) ?_
      refine gx_new (ci := 1) (fs := [.null, .int 0, .int 0, .int 0, .int 0, .int 0]) hx hb hw inP tyP tyP_ok hown (hw _ (gwd_0 (List.mem_of_getElem? (i := 14) rfl))) (hw _ (gwd_0 (List.mem_of_getElem? (i := 15) rfl))) (hw _ (gwd_0 (List.mem_of_getElem? (i := 2) rfl))) hK.1 hH hS hA (2, j, 0) hf2 rfl (fun j hj => by rcases (show j = 0 ∨ j = 1 ∨ j = 2 ∨ j = 3 ∨ j = 4 ∨ j = 5 by omega) with rfl | rfl | rfl | rfl | rfl | rfl <;> rfl) (show 1 + 2 * j + 1 ≤ 51 by omega) (show 24 + 10 * j + 6 ≤ 274 by omega) dK_init_26 (fun Q2 H hH hS => ?_)
      obtain ⟨ad2, hAD2⟩ : ∃ a, a = gu ad1 (2, j, 0) Q2 := ⟨_, rfl⟩
      rw [← hAD2] at hH
      have a2 : ad2 (2, j, 0) = Q2 := by rw [hAD2, gu_s]
      refine lv_dup hx hb dK_init_29 rfl ?_
      refine va_callv (va_runIN (As := []) (rest := [.ref Q2, .int (nI j), .ref (ad1 (1, 0, 0))]) ⟨hx, hb, hml, hown, hw⟩ (c_P_initH l (c := c) (2, j, 0) (3, j, 0) hH a2 (Or.inr rfl) (by rw [gu_s]) (fun z => z.elim hf3 (fun z => by simp at z))) ⟨va_cnB 0 hw (gd_C (gwd_0 (List.mem_of_getElem? (i := 17) rfl))) rfl rfl rfl hK.2.1 (hw _ (gwd_0 (List.mem_of_getElem? (i := 2) rfl))) (by decide +kernel) ⟨Nat.le_of_ble_eq_true rfl, Nat.le_of_ble_eq_true rfl⟩, rfl, (hw _ (gwd_0 (List.mem_of_getElem? (i := 16) rfl)))⟩ ⟨fun a U g mk h => ⟨h.1, h.2.1.calling, h.2.2⟩, fun U hU hW => ⟨rfl, hK.moved hW, by rw [hU]; exact hH⟩⟩ rfl rfl hl.1 rfl (lv_room (Nat.le_of_ble_eq_true rfl)) dK_init_30 ⟨show 1 + 2 * j + 1 + 1 ≤ 51 by omega, show 24 + 10 * j + 6 + 4 ≤ 274 by omega⟩) hS (fun _ _ h => h) (fun _ h => h) (fun Q3 t1 H locs ht _ _ hB _ _ hS => ?_)
      have hH := hB.2
      rw [ht] at hH
      obtain ⟨ad3, hAD3⟩ : ∃ a, a = gu ad2 (3, j, 0) Q3 := ⟨_, rfl⟩
      rw [← hAD3] at hH
      have c0 : ad3 (0, 0, 0) = ad1 (0, 0, 0) := by rw [hAD3, gu_n _ _ (by simp), hAD2, gu_n _ _ (by simp)]
      have c1 : ad3 (1, 0, 0) = ad1 (1, 0, 0) := by rw [hAD3, gu_n _ _ (by simp), hAD2, gu_n _ _ (by simp)]
      have c2 : ad3 (2, j, 0) = Q2 := by rw [hAD3, gu_n _ _ (by simp)]; exact a2
      rw [← c2, ← c1]
      refine gx_aast (N := 24) (f := fun p => if p < j then some (ad1 (2, p, 0)) else none) (n := (1, 0, 0)) (n' := (2, j, 0)) hx hb hK.1 hH hS 2 1 (Or.inl (Or.inl (Or.inr (Or.inl rfl)))) (by rw [gu_n _ _ (by simp), gu_n _ _ (by simp), gu_n _ _ (by simp)]; rfl) rfl (Or.inl (Or.inr rfl)) (by rw [gu_s]) rfl j rfl (by omega) (by decide) dK_init_33 (fun H locs hH hS => ?_)
      have hH := kH_up (by rw [hAD3, hAD2]) hH
      rw [a0] at hl
      refine lv_iinc (k := 0) (v := nI (j + 1)) hx hb dK_init_34 hl rfl (by rw [nI_succ]; rfl) (by decide) rfl (fun ls hl => ?_)
      refine lv_goto hx hb dK_init_37 rfl ?_
      refine W.cs (cells' := 1 + 2 * (j + 1)) (slots' := 24 + 10 * (j + 1)) (by omega) (by omega) ?_
      exact ih (j + 1) ad3 ls H locs (by omega) (c0.trans a0) hl hH hS
  rw [← e0] at hl
  refine lv_aload_n hx hb dK_init_0 rfl (lv_at hl 0 rfl) ?_
  refine W.objInit hx hb hown (hw _ (gwd_0 (List.mem_of_getElem? (i := 11) rfl))) (hw _ (gwd_0 (List.mem_of_getElem? (i := 12) rfl))) (hw _ (gwd_0 (List.mem_of_getElem? (i := 13) rfl))) rfl (by rw [hml]; exact hl.1) rfl dK_init_1 (Nat.le_of_ble_eq_true rfl) (Nat.le_of_ble_eq_true rfl) ?_
  refine W.eq (g2 := F0 m 4 ls []) rfl ?_
  refine lv_aload_n hx hb dK_init_4 rfl (lv_at hl 0 rfl) ?_
  refine lv_bipush (v := 24) hx hb dK_init_5 (by decide) ?_
  refine gx_newq (N' := 24) hx hb hown (hw _ (gwd_0 (List.mem_of_getElem? (i := 14) rfl))) hK.2.2.2.1 hK.1 hH hS hA (1, 0, 0) (fun z => by have := (hd _).mp z; simp at this) 2 rfl (by decide) (by decide) (by decide) (Nat.le_of_ble_eq_true rfl) (Nat.le_of_ble_eq_true rfl) dK_init_7 (fun Q1 H hH hS => ?_)
  have a0 : gu ad (1, 0, 0) Q1 (0, 0, 0) = ad (0, 0, 0) := gu_n _ _ (by simp)
  rw [← a0] at hl
  rw [← a0]
  refine gx_putF (n := (0, 0, 0)) (fs := [.null, .null, .null, .int 0, .int 0, .int 0, .null, .null]) (v := .ref Q1) (ty := .array (.object "GuestKeeper$Page")) hx hb hw inK tyK tyK_ok nK hown hK.1 hH hS (Or.inl hn) (by rw [gu_n _ _ (by simp)]; exact hV) rfl 0 (by decide) (hw _ (gwd_0 (List.mem_of_getElem? (i := 41) rfl))) (fun _ h => h) rfl hin rfl (by decide +kernel) rfl rfl (Nat.le_of_ble_eq_true rfl) dK_init_10 (fun H locs hH hS => ?_)
  refine lv_iconst (v := 0) hx hb dK_init_13 (by decide) ?_
  refine lv_istore_n hx hb dK_init_14 rfl hl (by decide) rfl (fun ls hl => ?_)
  rw [a0, e0] at hl
  refine key 24 0 (gu ad (1, 0, 0) Q1) ls _ _ (by omega) (a0.trans e0) hl (gH.congr hH (fun n => ?_) (fun _ _ => rfl) (fun n hnn => ?_)) hS
  · simp only [kD, hd]
    simp
  · rcases hnn with hnn | rfl
    · rw [(hd n).mp hnn, gu_s]
      simp [kV, gu]
    · rw [gu_n _ _ (by simp), gu_s]
      simp [kV]
