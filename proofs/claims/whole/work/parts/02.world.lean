/-! the world by names: a name of three numbers has an address and a cell -/
abbrev gN : Type := Nat × Nat × Nat
def gu {α : Type} (V : gN → α) (n : gN) (e : α) : gN → α := fun n' => if n' = n then e else V n'
theorem gu_s {α : Type} (V : gN → α) (n : gN) (e : α) : gu V n e n = e := by simp [gu]
theorem gu_n {α : Type} (V : gN → α) {n n' : gN} (e : α) (h : n' ≠ n) : gu V n e n' = V n' := by simp [gu, h]
abbrev gWs (ad : gN → Nat) (V : gN → va_E) (N : List gN) : va_W := N.map fun n => (ad n, V n)
/-- the names of dm have their cells V at their addresses ad, all apart and all in A -/
def gH (D : va_G) (cl : List vw_C) (ad : gN → Nat) (dm : gN → Prop) (V : gN → va_E) (A : Nat → Prop) (H : Heap) : Prop :=
  ∃ N : List gN, (∀ n, dm n ↔ n ∈ N) ∧ va_P D cl (gWs ad V N) H ∧ va_D A (gWs ad V N)
theorem gWs_at {ad : gN → Nat} {V : gN → va_E} {N : List gN} {n : gN} {k : Nat} (h : N[k]? = some n) : (gWs ad V N)[k]? = some (ad n, V n) := by
  simp only [gWs, List.getElem?_map, h, Option.map_some]
theorem gWs_set {A : Nat → Prop} {ad : gN → Nat} {V : gN → va_E} {N : List gN} {n : gN} {k : Nat} {e : va_E} (hD : va_D A (gWs ad V N)) (h : N[k]? = some n) : (gWs ad V N).set k (ad n, e) = gWs ad (gu V n e) N := by
  apply List.ext_getElem?
  intro i
  by_cases hi : i = k
  · subst hi
    have hl : i < (gWs ad V N).length := by
      simp only [gWs, List.length_map]
      exact (List.getElem?_eq_some_iff.mp h).1
    rw [List.getElem?_set_self hl, gWs_at h, gu_s]
  · rw [List.getElem?_set_ne (Ne.symm hi)]
    cases hN : N[i]? with
    | none => simp only [gWs, List.getElem?_map, hN, Option.map_none]
    | some n' =>
      have hne : n' ≠ n := fun q => hi (hD.1 i k (ad n', V n') (ad n, V n) (gWs_at hN) (gWs_at h) (by rw [q]))
      rw [gWs_at hN, gWs_at hN, gu_n _ _ hne]
theorem gH.inj {D : va_G} {cl : List vw_C} {ad : gN → Nat} {dm : gN → Prop} {V : gN → va_E} {A : Nat → Prop} {H : Heap} (h : gH D cl ad dm V A H) {n n' : gN} (h1 : dm n) (h2 : dm n') (e : ad n = ad n') : n = n' := by
  obtain ⟨N, hN, hP, hD⟩ := h
  obtain ⟨i, hi⟩ := List.getElem?_of_mem ((hN n).mp h1)
  obtain ⟨j, hj⟩ := List.getElem?_of_mem ((hN n').mp h2)
  have hij := hD.1 i j _ _ (gWs_at hi) (gWs_at hj) e
  subst hij
  exact Option.some.inj (hi.symm.trans hj)
theorem gH.one {D : va_G} {cl : List vw_C} {ad : gN → Nat} {dm : gN → Prop} {V : gN → va_E} {A : Nat → Prop} {H : Heap} (h : gH D cl ad dm V A H) {n : gN} {e : va_E} (h1 : dm n) (he : V n = e) : va_P D cl [(ad n, e)] H := by
  obtain ⟨N, hN, hP, hD⟩ := h
  obtain ⟨i, hi⟩ := List.getElem?_of_mem ((hN n).mp h1)
  intro k q hk
  have hz : k < 1 := (List.getElem?_eq_some_iff.mp hk).1
  rw [show k = 0 by omega] at hk
  cases hk
  rw [← he]
  exact hP i _ (gWs_at hi)
theorem gH.lt {D : va_G} {cl : List vw_C} {ad : gN → Nat} {dm : gN → Prop} {V : gN → va_E} {A : Nat → Prop} {H : Heap} (h : gH D cl ad dm V A H) {n : gN} (h1 : dm n) : ad n < H.size := ((h.one h1 rfl) 0 _ rfl).lt
theorem gH.congr {D : va_G} {cl : List vw_C} {ad ad' : gN → Nat} {dm dm' : gN → Prop} {V V' : gN → va_E} {A : Nat → Prop} {H : Heap} (h : gH D cl ad dm V A H) (hd : ∀ n, dm' n ↔ dm n) (ha : ∀ n, dm n → ad' n = ad n) (hV : ∀ n, dm n → V' n = V n) : gH D cl ad' dm' V' A H := by
  obtain ⟨N, hN, hP, hD⟩ := h
  have e : gWs ad' V' N = gWs ad V N := List.map_congr_left fun n hn => by rw [ha n ((hN n).mpr hn), hV n ((hN n).mpr hn)]
  exact ⟨N, fun n => (hd n).trans (hN n), by rw [e]; exact hP, by rw [e]; exact hD⟩
theorem gH.nil {D : va_G} {cl : List vw_C} {ad : gN → Nat} {V : gN → va_E} {A : Nat → Prop} {H : Heap} : gH D cl ad (fun _ => False) V A H :=
  ⟨[], fun n => by simp, fun k q hk => by simp [gWs] at hk, ⟨fun i j p q hi => by simp [gWs] at hi, fun k q hk => by simp [gWs] at hk⟩⟩
theorem gWs_push {D : va_G} {cl : List vw_C} {ad : gN → Nat} {dm : gN → Prop} {V : gN → va_E} {A : Nat → Prop} {H1 : Heap} {N : List gN} {n : gN} {q : Nat} {e : va_E} (hN : ∀ n, dm n ↔ n ∈ N) (hn : ¬ dm n) (hP : va_P D cl (gWs ad V N ++ [(q, e)]) H1) (hD : va_D A (gWs ad V N ++ [(q, e)])) : gH D cl (gu ad n q) (fun n' => dm n' ∨ n' = n) (gu V n e) A H1 := by
  have e1 : gWs (gu ad n q) (gu V n e) (N ++ [n]) = gWs ad V N ++ [(q, e)] := by
    simp only [gWs, List.map_append, List.map_cons, List.map_nil, gu_s]
    congr 1
    refine List.map_congr_left fun n' h' => ?_
    have hne : n' ≠ n := fun z => hn ((hN n).mpr (z ▸ h'))
    rw [gu_n _ _ hne, gu_n _ _ hne]
  refine ⟨N ++ [n], fun n' => ?_, by rw [e1]; exact hP, by rw [e1]; exact hD⟩
  rw [List.mem_append, List.mem_singleton, ← hN n']
section GROW
variable {p : Program} {l : Launch} {e : Env} {R : Room} {s : State} {m : MethodId} {args : Array Value} {below : List Frame} {meth : Method} {c : Code} {H : Heap} {locs : List Loc} {cells slots : Nat} {Q : State → Prop}
variable {cc : ByteArray} {pc : Nat} {ls : Array Slot} {rest : List Value} {D : va_G} {cl : List vw_C} {A : Nat → Prop} {tys : List (ClassId × FieldType)} {H0 : Heap} {ad : gN → Nat} {dm : gN → Prop} {V : gN → va_E} {n : gN}
theorem gx_get (hx : p.tables.exec = Jvm.exec) (hb : c.code = cc) {own ref C : String} {T : u_T} {N ci index : Nat} {Ts : List Cond} (hts : ∀ w ∈ Ts, w.before args s = true) (hin : ∀ w ∈ u_ws C T N, w ∈ Ts) (hown : s.vm.findClass own = some m.cls) (hK : va_K D cl tys s) (hH : gH D cl ad dm V A H) (hn : dm n) {fs : List Value} (he : V n = .inr (ci, fs)) (hc : cl[ci]? = some (C, T, N)) (k : Nat) (hk : k < N) (hlink : (Cond.fieldLink own index ref (T k).2.1 (T k).2.2.1).before args s = true) (hsame : ∀ x, s.fieldFound? (T k).1 (T k).2.1 (T k).2.2.1 = some x → s.fieldFound? ref (T k).2.1 (T k).2.2.1 = some x) {v : Value} (hv : fs[k]? = some v) (hdg : decode cc pc = .ok (.getfield index, 3))
    (kk : W p l e R s m args below meth c H locs cells slots Q (F0 m (pc + 3) ls (v :: rest))) : W p l e R s m args below meth c H locs cells slots Q (F0 m pc ls (.ref (ad n) :: rest)) :=
  va_get hx hb hts hin hown hK (hH.one hn he) 0 rfl hc k hk hlink hsame hv hdg kk
theorem gx_put (hx : p.tables.exec = Jvm.exec) (hb : c.code = cc) {own ref C : String} {T : u_T} {N ci index : Nat} {Ts : List Cond} (hts : ∀ w ∈ Ts, w.before args s = true) (hin : ∀ w ∈ u_ws C T N, w ∈ Ts) (ty0 : Nat → FieldType) (hty : ∀ k, k < N → parseFieldDescriptor (T k).2.2.1 = some (ty0 k)) (hnm : ∀ a, a < N → ∀ b, b < N → a ≠ b → (T a).2.1 ≠ (T b).2.1) (hown : s.vm.findClass own = some m.cls) (hK : va_K D cl tys s) (hH : gH D cl ad dm V A H) (hS : va_S A H0 H locs) (hn : dm n) {fs : List Value} (he : V n = .inr (ci, fs)) (hc : cl[ci]? = some (C, T, N)) (k : Nat) (hk : k < N) (hlink : (Cond.fieldLink own index ref (T k).2.1 (T k).2.2.1).before args s = true) (hsame : ∀ x, s.fieldFound? (T k).1 (T k).2.1 (T k).2.2.1 = some x → s.fieldFound? ref (T k).2.1 (T k).2.2.1 = some x) (hfin : (T k).2.2.2 = false) {ty : FieldType} {v : Value} (hd : parseFieldDescriptor (T k).2.2.1 = some ty) (hnr : narrow ty v = v) (hfit : fits ty v = true) (hl : k < fs.length) (hdg : decode cc pc = .ok (.putfield index, 3))
    (kk : ∀ (H1 : Heap) (locs1 : List Loc), gH D cl ad dm (gu V n (.inr (ci, fs.set k v))) A H1 → va_S A H0 H1 locs1 → W p l e R s m args below meth c H1 locs1 cells slots Q (F0 m (pc + 3) ls rest)) : W p l e R s m args below meth c H locs cells slots Q (F0 m pc ls (v :: .ref (ad n) :: rest)) := by
  obtain ⟨L, hL, hP, hD⟩ := hH
  obtain ⟨i, hi⟩ := List.getElem?_of_mem ((hL n).mp hn)
  refine va_put hx hb hts hin ty0 hty hnm hown hK hP hD hS i (by rw [gWs_at hi, he]) hc k hk hlink hsame hfin hd hnr hfit hl hdg (fun H1 locs1 h1 h2 h3 => kk H1 locs1 ⟨L, hL, ?_, ?_⟩ h3)
  · rw [gWs_set hD hi] at h1; exact h1
  · rw [gWs_set hD hi] at h2; exact h2
theorem gx_putF (hx : p.tables.exec = Jvm.exec) (hb : c.code = cc) {own ref C : String} {T : u_T} {N ci index : Nat} {Ts : List Cond} (hts : ∀ w ∈ Ts, w.before args s = true) (hin : ∀ w ∈ u_ws C T N, w ∈ Ts) (ty0 : Nat → FieldType) (hty : ∀ k, k < N → parseFieldDescriptor (T k).2.2.1 = some (ty0 k)) (hnm : ∀ a, a < N → ∀ b, b < N → a ≠ b → (T a).2.1 ≠ (T b).2.1) (hown : s.vm.findClass own = some m.cls) (hK : va_K D cl tys s) (hH : gH D cl ad dm V A H) (hS : va_S A H0 H locs) (hn : dm n) {fs : List Value} (he : V n = .inr (ci, fs)) (hc : cl[ci]? = some (C, T, N)) (k : Nat) (hk : k < N) (hlink : (Cond.fieldLink own index ref (T k).2.1 (T k).2.2.1).before args s = true) (hsame : ∀ x, s.fieldFound? (T k).1 (T k).2.1 (T k).2.2.1 = some x → s.fieldFound? ref (T k).2.1 (T k).2.2.1 = some x) (hfin : (T k).2.2.2 = true) (hin2 : meth.name = "<init>") (hdecl : (T k).1 = own) {ty : FieldType} {v : Value} (hd : parseFieldDescriptor (T k).2.2.1 = some ty) (hnr : narrow ty v = v) (hfit : fits ty v = true) (hl : k < fs.length) (hdg : decode cc pc = .ok (.putfield index, 3))
    (kk : ∀ (H1 : Heap) (locs1 : List Loc), gH D cl ad dm (gu V n (.inr (ci, fs.set k v))) A H1 → va_S A H0 H1 locs1 → W p l e R s m args below meth c H1 locs1 cells slots Q (F0 m (pc + 3) ls rest)) : W p l e R s m args below meth c H locs cells slots Q (F0 m pc ls (v :: .ref (ad n) :: rest)) := by
  obtain ⟨L, hL, hP, hD⟩ := hH
  obtain ⟨i, hi⟩ := List.getElem?_of_mem ((hL n).mp hn)
  refine va_putF hx hb hts hin ty0 hty hnm hown hK hP hD hS i (by rw [gWs_at hi, he]) hc k hk hlink hsame hfin hin2 hdecl hd hnr hfit hl hdg (fun H1 locs1 h1 h2 h3 => kk H1 locs1 ⟨L, hL, ?_, ?_⟩ h3)
  · rw [gWs_set hD hi] at h1; exact h1
  · rw [gWs_set hD hi] at h2; exact h2
theorem gx_iald (hx : p.tables.exec = Jvm.exec) (hb : c.code = cc) (hK : va_K D cl tys s) (hH : gH D cl ad dm V A H) (t0 : Nat) (hn : dm n) {cA : ClassId} {N : Nat} {f : Nat → Int32} (he : V n = .inl (cA, N, .inl f)) (ht : tys[t0]? = some (cA, .int)) {i : Int32} (j : Nat) (hi : i = nI j) (hj : j < N) (hN : N < 2 ^ 31) (hdg : decode cc pc = .ok (.iaload, 1))
    (kk : W p l e R s m args below meth c H locs cells slots Q (F0 m (pc + 1) ls (.int (f j) :: rest))) : W p l e R s m args below meth c H locs cells slots Q (F0 m pc ls (.int i :: .ref (ad n) :: rest)) := by
  subst hi
  refine va_iald hx hb hK (hH.one hn he) 0 t0 rfl ht (vp_in_nI hj hN) hdg ?_
  rw [nI_clamp (by omega)]
  exact kk
theorem gx_zald (hx : p.tables.exec = Jvm.exec) (hb : c.code = cc) (hK : va_K D cl tys s) (hH : gH D cl ad dm V A H) (t0 : Nat) (hn : dm n) {cA : ClassId} {N : Nat} {f : Nat → Int32} (he : V n = .inl (cA, N, .inl f)) (ht : tys[t0]? = some (cA, .boolean)) {i : Int32} (j : Nat) (hi : i = nI j) (hj : j < N) (hN : N < 2 ^ 31) (hdg : decode cc pc = .ok (.baload, 1))
    (kk : W p l e R s m args below meth c H locs cells slots Q (F0 m (pc + 1) ls (.int (f j) :: rest))) : W p l e R s m args below meth c H locs cells slots Q (F0 m pc ls (.int i :: .ref (ad n) :: rest)) := by
  subst hi
  refine va_zald hx hb hK (hH.one hn he) 0 t0 rfl ht (vp_in_nI hj hN) hdg ?_
  rw [nI_clamp (by omega)]
  exact kk
theorem gx_aald (hx : p.tables.exec = Jvm.exec) (hb : c.code = cc) (hK : va_K D cl tys s) (hH : gH D cl ad dm V A H) (t0 : Nat) (hn : dm n) {cA : ClassId} {N : Nat} {C : String} {f : Nat → Option Nat} (he : V n = .inl (cA, N, .inr (.inr (.inr (.inr f))))) (ht : tys[t0]? = some (cA, .object C)) {i : Int32} (j : Nat) (hi : i = nI j) (hj : j < N) (hN : N < 2 ^ 31) (hdg : decode cc pc = .ok (.aaload, 1))
    (kk : W p l e R s m args below meth c H locs cells slots Q (F0 m (pc + 1) ls (va_rf (f j) :: rest))) : W p l e R s m args below meth c H locs cells slots Q (F0 m pc ls (.int i :: .ref (ad n) :: rest)) := by
  subst hi
  refine va_aldq hx hb hK (hH.one hn he) 0 t0 rfl ht (vp_in_nI hj hN) hdg ?_
  rw [nI_clamp (by omega)]
  exact kk
theorem gx_iast (hx : p.tables.exec = Jvm.exec) (hb : c.code = cc) (hK : va_K D cl tys s) (hH : gH D cl ad dm V A H) (hS : va_S A H0 H locs) (t0 : Nat) (hn : dm n) {cA : ClassId} {N : Nat} {f : Nat → Int32} (he : V n = .inl (cA, N, .inl f)) (ht : tys[t0]? = some (cA, .int)) {i x : Int32} (j : Nat) (hi : i = nI j) (hj : j < N) (hN : N < 2 ^ 31) (hdg : decode cc pc = .ok (.iastore, 1))
    (kk : ∀ (H1 : Heap) (locs1 : List Loc), gH D cl ad dm (gu V n (.inl (cA, N, .inl (upd f j x)))) A H1 → va_S A H0 H1 locs1 → W p l e R s m args below meth c H1 locs1 cells slots Q (F0 m (pc + 1) ls rest)) : W p l e R s m args below meth c H locs cells slots Q (F0 m pc ls (.int x :: .int i :: .ref (ad n) :: rest)) := by
  subst hi
  obtain ⟨L, hL, hP, hD⟩ := hH
  obtain ⟨i, hi⟩ := List.getElem?_of_mem ((hL n).mp hn)
  refine va_iast hx hb hK hP hD hS i t0 (by rw [gWs_at hi, he]) ht (vp_in_nI hj hN) hdg (fun H1 locs1 h1 h2 h3 => kk H1 locs1 ⟨L, hL, ?_, ?_⟩ h3)
  · rw [gWs_set hD hi, nI_clamp (by omega)] at h1; exact h1
  · rw [gWs_set hD hi, nI_clamp (by omega)] at h2; exact h2
theorem gx_zast (hx : p.tables.exec = Jvm.exec) (hb : c.code = cc) (hK : va_K D cl tys s) (hH : gH D cl ad dm V A H) (hS : va_S A H0 H locs) (t0 : Nat) (hn : dm n) {cA : ClassId} {N : Nat} {f : Nat → Int32} (he : V n = .inl (cA, N, .inl f)) (ht : tys[t0]? = some (cA, .boolean)) {i x : Int32} (j : Nat) (hi : i = nI j) (hj : j < N) (hN : N < 2 ^ 31) (h01 : x = 0 ∨ x = 1) (hdg : decode cc pc = .ok (.bastore, 1))
    (kk : ∀ (H1 : Heap) (locs1 : List Loc), gH D cl ad dm (gu V n (.inl (cA, N, .inl (upd f j x)))) A H1 → va_S A H0 H1 locs1 → W p l e R s m args below meth c H1 locs1 cells slots Q (F0 m (pc + 1) ls rest)) : W p l e R s m args below meth c H locs cells slots Q (F0 m pc ls (.int x :: .int i :: .ref (ad n) :: rest)) := by
  subst hi
  have hx1 : vp_nar .boolean x = x := by rcases h01 with rfl | rfl <;> rfl
  obtain ⟨L, hL, hP, hD⟩ := hH
  obtain ⟨i, hi⟩ := List.getElem?_of_mem ((hL n).mp hn)
  refine va_zast hx hb hK hP hD hS i t0 (by rw [gWs_at hi, he]) ht (vp_in_nI hj hN) hdg (fun H1 locs1 h1 h2 h3 => kk H1 locs1 ⟨L, hL, ?_, ?_⟩ h3)
  · rw [gWs_set hD hi, nI_clamp (by omega), hx1] at h1; exact h1
  · rw [gWs_set hD hi, nI_clamp (by omega), hx1] at h2; exact h2
theorem gx_aast (hx : p.tables.exec = Jvm.exec) (hb : c.code = cc) (hK : va_K D cl tys s) (hH : gH D cl ad dm V A H) (hS : va_S A H0 H locs) (t0 ci : Nat) (hn : dm n) {cA : ClassId} {r : vw_C} {N : Nat} {f : Nat → Option Nat} {n' : gN} {vs : List Value} (he : V n = .inl (cA, N, .inr (.inr (.inr (.inr f))))) (ht : tys[t0]? = some (cA, .object r.1)) (hn' : dm n') (he' : V n' = .inr (ci, vs)) (hc : cl[ci]? = some r) {i : Int32} (j : Nat) (hi : i = nI j) (hj : j < N) (hN : N < 2 ^ 31) (hdg : decode cc pc = .ok (.aastore, 1))
    (kk : ∀ (H1 : Heap) (locs1 : List Loc), gH D cl ad dm (gu V n (.inl (cA, N, .inr (.inr (.inr (.inr (va_up f j (some (ad n'))))))))) A H1 → va_S A H0 H1 locs1 → W p l e R s m args below meth c H1 locs1 cells slots Q (F0 m (pc + 1) ls rest)) : W p l e R s m args below meth c H locs cells slots Q (F0 m pc ls (.ref (ad n') :: .int i :: .ref (ad n) :: rest)) := by
  subst hi
  obtain ⟨L, hL, hP, hD⟩ := hH
  obtain ⟨i, hi⟩ := List.getElem?_of_mem ((hL n).mp hn)
  obtain ⟨i', hi'⟩ := List.getElem?_of_mem ((hL n').mp hn')
  refine va_astq hx hb hK hP hD hS i t0 i' ci (by rw [gWs_at hi, he]) ht (by rw [gWs_at hi', he']) hc (vp_in_nI hj hN) hdg (fun H1 locs1 h1 h2 h3 => kk H1 locs1 ⟨L, hL, ?_, ?_⟩ h3)
  · rw [gWs_set hD hi, nI_clamp (by omega)] at h1; exact h1
  · rw [gWs_set hD hi, nI_clamp (by omega)] at h2; exact h2
theorem gx_aastN (hx : p.tables.exec = Jvm.exec) (hb : c.code = cc) (hK : va_K D cl tys s) (hH : gH D cl ad dm V A H) (hS : va_S A H0 H locs) (t0 : Nat) (hn : dm n) {cA : ClassId} {C : String} {N : Nat} {f : Nat → Option Nat} (he : V n = .inl (cA, N, .inr (.inr (.inr (.inr f))))) (ht : tys[t0]? = some (cA, .object C)) {i : Int32} (j : Nat) (hi : i = nI j) (hj : j < N) (hN : N < 2 ^ 31) (hdg : decode cc pc = .ok (.aastore, 1))
    (kk : ∀ (H1 : Heap) (locs1 : List Loc), gH D cl ad dm (gu V n (.inl (cA, N, .inr (.inr (.inr (.inr (va_up f j none))))))) A H1 → va_S A H0 H1 locs1 → W p l e R s m args below meth c H1 locs1 cells slots Q (F0 m (pc + 1) ls rest)) : W p l e R s m args below meth c H locs cells slots Q (F0 m pc ls (.null :: .int i :: .ref (ad n) :: rest)) := by
  subst hi
  obtain ⟨L, hL, hP, hD⟩ := hH
  obtain ⟨i, hi⟩ := List.getElem?_of_mem ((hL n).mp hn)
  refine va_astqN hx hb hK hP hD hS i t0 (by rw [gWs_at hi, he]) ht (vp_in_nI hj hN) hdg (fun H1 locs1 h1 h2 h3 => kk H1 locs1 ⟨L, hL, ?_, ?_⟩ h3)
  · rw [gWs_set hD hi, nI_clamp (by omega)] at h1; exact h1
  · rw [gWs_set hD hi, nI_clamp (by omega)] at h2; exact h2
theorem gx_new (hx : p.tables.exec = Jvm.exec) (hb : c.code = cc) {own C : String} {T : u_T} {N ci index : Nat} {Ts : List Cond} (hts : ∀ w ∈ Ts, w.before args s = true) (hin : ∀ w ∈ u_ws C T N, w ∈ Ts) (ty : Nat → FieldType) (hty : ∀ k, k < N → parseFieldDescriptor (T k).2.2.1 = some (ty k)) (hown : s.vm.findClass own = some m.cls) (hcl : (Cond.classLink own index C).before args s = true) (hinst : (Cond.instantiable C N).before args s = true) (hini : (Cond.initialized C).before args s = true) (hK : va_K D cl tys s) (hH : gH D cl ad dm V A H) (hS : va_S A H0 H locs) (hA : ∀ q, H0.size ≤ q → A q) (n : gN) (hn : ¬ dm n) (hc : cl[ci]? = some (C, T, N)) {fs : List Value} (hfs : ∀ j, j < N → defaultValue (ty j) = vp_V fs j) (hcells : cells + 1 ≤ R.cells) (hslots : slots + N ≤ R.slots) (hdg : decode cc pc = .ok (.new index, 3))
    (kk : ∀ (q : Nat) (H1 : Heap), gH D cl (gu ad n q) (fun n' => dm n' ∨ n' = n) (gu V n (.inr (ci, fs))) A H1 → va_S A H0 H1 locs → W p l e R s m args below meth c H1 locs (cells + 1) (slots + N) Q (F0 m (pc + 3) ls (.ref q :: rest))) : W p l e R s m args below meth c H locs cells slots Q (F0 m pc ls rest) := by
  obtain ⟨L, hL, hP, hD⟩ := hH
  exact va_new hx hb hts hin ty hty hown hcl hinst hini hK hP hD hS hA hc hfs hcells hslots hdg (fun q H1 h1 h2 h3 => kk q H1 (gWs_push hL hn h1 h2) h3)
theorem gx_newa (hx : p.tables.exec = Jvm.exec) (hb : c.code = cc) {atype : ArrayType} (harr : (Cond.arrayClass (newarray.typeOf atype)).before args s = true) {ty : FieldType} (hty : newarray.typeOf atype = ty) (hK : va_K D cl tys s) (hH : gH D cl ad dm V A H) (hS : va_S A H0 H locs) (hA : ∀ q, H0.size ≤ q → A q) (n : gN) (hn : ¬ dm n) (t0 : Nat) {cA0 : ClassId} (ht : tys[t0]? = some (cA0, ty)) (hu : ∀ cA : ClassId, va_RA s cA ty → va_RA s cA0 ty → cA = cA0) {i : Int32} {N' : Nat} {a0 : vp_A} (ha : ∀ cA : ClassId, vp_cell cA a0 = arrV cA N' (fun _ => defaultValue ty)) (hi : ¬ i < 0) (hN : i.toNatClampNeg = N') (hbytes : N' * componentBytes ty ≤ 536870912) (hcells : cells + 1 ≤ R.cells) (hslots : slots + N' ≤ R.slots) (hdg : decode cc pc = .ok (.newarray atype, 2))
    (kk : ∀ (q : Nat) (H1 : Heap), gH D cl (gu ad n q) (fun n' => dm n' ∨ n' = n) (gu V n (.inl (cA0, a0))) A H1 → va_S A H0 H1 locs → W p l e R s m args below meth c H1 locs (cells + 1) (slots + N') Q (F0 m (pc + 2) ls (.ref q :: rest))) : W p l e R s m args below meth c H locs cells slots Q (F0 m pc ls (.int i :: rest)) := by
  obtain ⟨L, hL, hP, hD⟩ := hH
  refine va_newa hx hb harr hty hK hP hD hS hA ha hi hN hbytes hcells hslots hdg (fun q cA H1 hK1 h1 h2 h3 => ?_)
  have hcA : cA = cA0 := hu cA (hK1.2 tys.length (cA, ty) (by simp)).2 (hK.2 t0 _ ht).2
  subst hcA
  exact kk q H1 (gWs_push hL hn h1 h2) h3
theorem gx_newq (hx : p.tables.exec = Jvm.exec) (hb : c.code = cc) {own C : String} {index : Nat} (hown : s.vm.findClass own = some m.cls) (hclink : (Cond.classLink own index C).before args s = true) (hover : va_AO C s) (hK : va_K D cl tys s) (hH : gH D cl ad dm V A H) (hS : va_S A H0 H locs) (hA : ∀ q, H0.size ≤ q → A q) (n : gN) (hn : ¬ dm n) (t0 : Nat) {cA0 : ClassId} (ht : tys[t0]? = some (cA0, .object C)) {i : Int32} {N' : Nat} (hi : ¬ i < 0) (hN : i.toNatClampNeg = N') (hbytes : N' * 4 ≤ 536870912) (hcells : cells + 1 ≤ R.cells) (hslots : slots + N' ≤ R.slots) (hdg : decode cc pc = .ok (.anewarray index, 3))
    (kk : ∀ (q : Nat) (H1 : Heap), gH D cl (gu ad n q) (fun n' => dm n' ∨ n' = n) (gu V n (.inl (cA0, N', .inr (.inr (.inr (.inr (fun _ => none))))))) A H1 → va_S A H0 H1 locs → W p l e R s m args below meth c H1 locs (cells + 1) (slots + N') Q (F0 m (pc + 3) ls (.ref q :: rest))) : W p l e R s m args below meth c H locs cells slots Q (F0 m pc ls (.int i :: rest)) := by
  obtain ⟨L, hL, hP, hD⟩ := hH
  refine va_newq hx hb hown hclink hover hK hP hD hS hA hi hN hbytes hcells hslots hdg (fun q cA H1 hK1 h1 h2 h3 => ?_)
  have hcA : cA = cA0 := by
    obtain ⟨_, _, _, _, _, e1⟩ := (hK1.2 tys.length (cA, .object C) (by simp)).2
    obtain ⟨_, _, _, _, _, e2⟩ := (hK.2 t0 _ ht).2
    exact Option.some.inj (e1.symm.trans e2)
  subst hcA
  exact kk q H1 (gWs_push hL hn h1 h2) h3
end GROW
