/-! constructors: a world as a list of cells, the newest first -/
abbrev nC : Type := Program × Launch × Env × Room × State × MethodId × Array Value × List Frame × Method × Code
def n_s (Z : nC) : State := Z.2.2.2.2.1
def n_ok (Z : nC) (D : va_G) (cA : Nat → ClassId) (A : Nat → Prop) (own : String) (cc : ByteArray) (nL : Nat) : Prop :=
  Z.1.tables.exec = Jvm.exec ∧ Z.2.2.2.2.2.2.2.2.2.code = cc ∧ Z.2.2.2.2.2.2.2.2.2.maxLocals = nL ∧ (n_s Z).vm.findClass own = some Z.2.2.2.2.2.1.cls ∧ (∀ w ∈ gw_tbl, w.before Z.2.2.2.2.2.2.1 (n_s Z) = true) ∧ va_K D zz_cl (zz_ty cA) (n_s Z) ∧ (va_AO "LeaseCluster$Server" (n_s Z) ∧ va_AO "LeaseCluster$World" (n_s Z)) ∧ (∀ q, (n_s Z).heap.size ≤ q → A q)
def nW (Z : nC) (D : va_G) (A : Nat → Prop) (nL : Nat) (Q : State → Prop) (pc : Nat) (ls : List (Nat × Value)) (st : List Value) (ws : va_W) (k n : Nat) : Prop :=
  ∀ (H : Heap) (locs : List Loc) (la : Array Slot), va_P D zz_cl ws H → va_D A ws → va_S A (n_s Z).heap H locs → lv_has la nL ls → W Z.1 Z.2.1 Z.2.2.1 Z.2.2.2.1 (n_s Z) Z.2.2.2.2.2.1 Z.2.2.2.2.2.2.1 Z.2.2.2.2.2.2.2.1 Z.2.2.2.2.2.2.2.2.1 Z.2.2.2.2.2.2.2.2.2 H locs k n Q (F0 Z.2.2.2.2.2.1 pc la st)
theorem n_Pc {D : va_G} {cl : List vw_C} {x : Nat × va_E} {ws : va_W} {H : Heap} (h : va_P D cl (x :: ws) H) : va_at D cl x H ∧ va_P D cl ws H := ⟨h 0 x rfl, fun k q hk => h (k + 1) q hk⟩
theorem n_Dc {A : Nat → Prop} {x : Nat × va_E} {ws : va_W} (h : va_D A (x :: ws)) : va_D A ws ∧ A x.1 ∧ ∀ (k : Nat) (q : Nat × va_E), ws[k]? = some q → x.1 ≠ q.1 :=
  ⟨⟨fun i j a b ha hb e => Nat.succ.inj (h.1 (i + 1) (j + 1) a b ha hb e), fun k q hk => h.2 (k + 1) q hk⟩, h.2 0 x rfl, fun k q hk e => by have := h.1 0 (k + 1) x q rfl hk e; omega⟩
theorem n_Prot {D : va_G} {cl : List vw_C} {x : Nat × va_E} {ws : va_W} {H : Heap} (h : va_P D cl (ws ++ [x]) H) : va_P D cl (x :: ws) H := fun k q hk => by
  cases k with
  | zero => cases hk; exact h ws.length x (by simp)
  | succ k =>
    have hk : ws[k]? = some q := hk
    exact h k q (by rw [List.getElem?_append_left (List.getElem?_eq_some_iff.mp hk).1]; exact hk)
theorem n_Drot {A : Nat → Prop} {x : Nat × va_E} {ws : va_W} (h : va_D A (ws ++ [x])) : va_D A (x :: ws) := by
  have hl : ∀ (k : Nat) (q : Nat × va_E), ws[k]? = some q → (ws ++ [x])[k]? = some q ∧ k < ws.length := fun k q hk => by
    have := (List.getElem?_eq_some_iff.mp hk).1
    exact ⟨by rw [List.getElem?_append_left this]; exact hk, this⟩
  have hx : (ws ++ [x])[ws.length]? = some x := by simp
  refine ⟨fun i j a b ha hb e => ?_, fun k q hk => ?_⟩
  · cases i with
    | zero =>
      cases ha
      cases j with
      | zero => rfl
      | succ j =>
        obtain ⟨h1, h2⟩ := hl j b hb
        have := h.1 _ _ _ _ hx h1 e
        omega
    | succ i =>
      obtain ⟨h1, h2⟩ := hl i a ha
      cases j with
      | zero =>
        cases hb
        have := h.1 _ _ _ _ h1 hx e
        omega
      | succ j =>
        obtain ⟨h3, h4⟩ := hl j b hb
        have := h.1 _ _ _ _ h1 h3 e
        omega
  · cases k with
    | zero => cases hk; exact h.2 _ _ hx
    | succ k => exact h.2 k q (hl k q hk).1
section NR
variable {Z : nC} {D : va_G} {cA : Nat → ClassId} {A : Nat → Prop} {own : String} {cc : ByteArray} {nL : Nat} {Q : State → Prop} {pc k n : Nat} {ls ls' : List (Nat × Value)} {st : List Value} {ws ws' : va_W}
theorem n_al (ok : n_ok Z D cA A own cc nL) {i : Fin 4} {a j : Nat} (hd : decode cc pc = .ok (.aload_n i, 1)) (hj : ls[j]? = some (i.val, .ref a)) (kk : nW Z D A nL Q (pc + 1) ls (.ref a :: st) ws k n) : nW Z D A nL Q pc ls st ws k n :=
  fun H locs la hP hD hS hl => lv_aload_n ok.1 ok.2.1 hd rfl (lv_at hl j hj) (kk H locs la hP hD hS hl)
theorem n_il (ok : n_ok Z D cA A own cc nL) {i : Fin 4} {x : Int32} {j : Nat} (hd : decode cc pc = .ok (.iload_n i, 1)) (hj : ls[j]? = some (i.val, .int x)) (kk : nW Z D A nL Q (pc + 1) ls (.int x :: st) ws k n) : nW Z D A nL Q pc ls st ws k n :=
  fun H locs la hP hD hS hl => lv_iload_n ok.1 ok.2.1 hd rfl (lv_at hl j hj) (kk H locs la hP hD hS hl)
theorem n_ic (ok : n_ok Z D cA A own cc nL) {v : Int32} {x : Int} (hd : decode cc pc = .ok (.iconst x, 1)) (hv : Int32.ofInt x = v) (kk : nW Z D A nL Q (pc + 1) ls (.int v :: st) ws k n) : nW Z D A nL Q pc ls st ws k n :=
  fun H locs la hP hD hS hl => lv_iconst ok.1 ok.2.1 hd hv (kk H locs la hP hD hS hl)
theorem n_bi (ok : n_ok Z D cA A own cc nL) {v : Int32} {x : Int} (hd : decode cc pc = .ok (.bipush x, 2)) (hv : (Int8.ofInt x).toInt32 = v) (kk : nW Z D A nL Q (pc + 2) ls (.int v :: st) ws k n) : nW Z D A nL Q pc ls st ws k n :=
  fun H locs la hP hD hS hl => lv_bipush ok.1 ok.2.1 hd hv (kk H locs la hP hD hS hl)
theorem n_si (ok : n_ok Z D cA A own cc nL) {v : Int32} {x : Int} (hd : decode cc pc = .ok (.sipush x, 3)) (hv : (Int16.ofInt x).toInt32 = v) (kk : nW Z D A nL Q (pc + 3) ls (.int v :: st) ws k n) : nW Z D A nL Q pc ls st ws k n :=
  fun H locs la hP hD hS hl => lv_sipush ok.1 ok.2.1 hd hv (kk H locs la hP hD hS hl)
theorem n_dup (ok : n_ok Z D cA A own cc nL) {a : Nat} (hd : decode cc pc = .ok (.dup, 1)) (kk : nW Z D A nL Q (pc + 1) ls (.ref a :: .ref a :: st) ws k n) : nW Z D A nL Q pc ls (.ref a :: st) ws k n :=
  fun H locs la hP hD hS hl => lv_dup ok.1 ok.2.1 hd rfl (kk H locs la hP hD hS hl)
theorem n_mul (ok : n_ok Z D cA A own cc nL) {x y : Int32} (hd : decode cc pc = .ok (.imul, 1)) (kk : nW Z D A nL Q (pc + 1) ls (.int (x * y) :: st) ws k n) : nW Z D A nL Q pc ls (.int y :: .int x :: st) ws k n :=
  fun H locs la hP hD hS hl => lv_imul ok.1 ok.2.1 hd (kk H locs la hP hD hS hl)
theorem n_add (ok : n_ok Z D cA A own cc nL) {x y : Int32} (hd : decode cc pc = .ok (.iadd, 1)) (kk : nW Z D A nL Q (pc + 1) ls (.int (x + y) :: st) ws k n) : nW Z D A nL Q pc ls (.int y :: .int x :: st) ws k n :=
  fun H locs la hP hD hS hl => lv_iadd ok.1 ok.2.1 hd (kk H locs la hP hD hS hl)
theorem n_is (ok : n_ok Z D cA A own cc nL) {i : Fin 4} {x : Int32} (hd : decode cc pc = .ok (.istore_n i, 1)) (hn : i.val < nL) (hl' : (i.val, Value.int x) :: ls.filter (fun q => !(q.1 == i.val) && !(q.1 + 1 == i.val && q.2.category == 2)) = ls') (kk : nW Z D A nL Q (pc + 1) ls' st ws k n) : nW Z D A nL Q pc ls (.int x :: st) ws k n :=
  fun H locs la hP hD hS hl => lv_istore_n ok.1 ok.2.1 hd rfl hl hn hl' (fun la hl => kk H locs la hP hD hS hl)
theorem n_inc (ok : n_ok Z D cA A own cc nL) {i j : Nat} {x v : Int32} {d : Int} (hd : decode cc pc = .ok (.iinc i d, 3)) (hj : ls[j]? = some (i, .int x)) (hv : x + Int32.ofInt d = v) (hn : i < nL) (hl' : (i, Value.int v) :: ls.filter (fun q => !(q.1 == i) && !(q.1 + 1 == i && q.2.category == 2)) = ls') (kk : nW Z D A nL Q (pc + 3) ls' st ws k n) : nW Z D A nL Q pc ls st ws k n :=
  fun H locs la hP hD hS hl => lv_iinc ok.1 ok.2.1 hd hl hj hv hn hl' (fun la hl => kk H locs la hP hD hS hl)
theorem n_go (ok : n_ok Z D cA A own cc nL) {off : Int} {t : Nat} (hd : decode cc pc = .ok (.goto off, 3)) (ht : (pc : Int) + off = (t : Int)) (kk : nW Z D A nL Q t ls st ws k n) : nW Z D A nL Q pc ls st ws k n :=
  fun H locs la hP hD hS hl => lv_goto ok.1 ok.2.1 hd ht (kk H locs la hP hD hS hl)
theorem n_ge (ok : n_ok Z D cA A own cc nL) {off : Int} {t : Nat} {x y : Int32} (hd : decode cc pc = .ok (.if_icmp .ge off, 3)) (ht : (pc : Int) + off = (t : Int)) (k1 : y ≤ x → nW Z D A nL Q t ls st ws k n) (k2 : ¬ y ≤ x → nW Z D A nL Q (pc + 3) ls st ws k n) : nW Z D A nL Q pc ls (.int y :: .int x :: st) ws k n :=
  fun H locs la hP hD hS hl => lv_icmp_ge ok.1 ok.2.1 hd ht (fun c => k1 c H locs la hP hD hS hl) (fun c => k2 c H locs la hP hD hS hl)
theorem n_le (ok : n_ok Z D cA A own cc nL) {off : Int} {t : Nat} {x y : Int32} (hd : decode cc pc = .ok (.if_icmp .le off, 3)) (ht : (pc : Int) + off = (t : Int)) (k1 : x ≤ y → nW Z D A nL Q t ls st ws k n) (k2 : ¬ x ≤ y → nW Z D A nL Q (pc + 3) ls st ws k n) : nW Z D A nL Q pc ls (.int y :: .int x :: st) ws k n :=
  fun H locs la hP hD hS hl => lv_icmp_le ok.1 ok.2.1 hd ht (fun c => k1 c H locs la hP hD hS hl) (fun c => k2 c H locs la hP hD hS hl)
theorem n_ifge (ok : n_ok Z D cA A own cc nL) {off : Int} {t : Nat} {x : Int32} (hd : decode cc pc = .ok (.ifCond .ge off, 3)) (ht : (pc : Int) + off = (t : Int)) (k1 : 0 ≤ x → nW Z D A nL Q t ls st ws k n) (k2 : ¬ 0 ≤ x → nW Z D A nL Q (pc + 3) ls st ws k n) : nW Z D A nL Q pc ls (.int x :: st) ws k n :=
  fun H locs la hP hD hS hl => lv_if_ge ok.1 ok.2.1 hd ht (fun c => k1 c H locs la hP hD hS hl) (fun c => k2 c H locs la hP hD hS hl)
theorem n_oi (ok : n_ok Z D cA A own cc nL) {idx a : Nat} (h1 : Cond.methodLink own idx Lib.objectInit ∈ gw_tbl) (h2 : Cond.instanceMethod Lib.objectInit ∈ gw_tbl) (h3 : Cond.code Lib.objectInit ⟨#[0xb1]⟩ 1 none ∈ gw_tbl) (hd : decode cc pc = .ok (.invokespecial idx, 3)) (hf : 1 ≤ Z.2.2.2.1.frames) (hloc : (st.map fun v => v.category).sum + 12 ≤ Z.2.2.2.1.locals) (kk : nW Z D A nL Q (pc + 3) ls st ws k n) : nW Z D A nL Q pc ls (.ref a :: st) ws k n :=
  fun H locs la hP hD hS hl => W.objInit ok.1 ok.2.1 ok.2.2.2.1 (ok.2.2.2.2.1 _ h1) (ok.2.2.2.2.1 _ h2) (ok.2.2.2.2.1 _ h3) rfl (by rw [ok.2.2.1]; exact hl.1) rfl hd hf (by show 2 * 0 + _ + 12 ≤ _; omega) (kk H locs la hP hD hS hl)
theorem n_new (ok : n_ok Z D cA A own cc nL) {C : String} {T : u_T} {N ci idx : Nat} {fs : List Value} (hc : zz_cl[ci]? = some (C, T, N)) (ty : Nat → FieldType) (hty : ∀ k, k < N → parseFieldDescriptor (T k).2.2.1 = some (ty k)) (hfs : ∀ j, j < N → defaultValue (ty j) = vp_V fs j) (h1 : Cond.classLink own idx C ∈ gw_tbl) (h2 : Cond.instantiable C N ∈ gw_tbl) (h3 : Cond.initialized C ∈ gw_tbl) (hk : k + 1 ≤ Z.2.2.2.1.cells) (hn : n + N ≤ Z.2.2.2.1.slots) (hd : decode cc pc = .ok (.new idx, 3))
    (kk : ∀ q, nW Z D A nL Q (pc + 3) ls (.ref q :: st) ((q, .inr (ci, fs)) :: ws) (k + 1) (n + N)) : nW Z D A nL Q pc ls st ws k n :=
  fun H locs la hP hD hS hl => va_new (ci := ci) (fs := fs) (C := C) (T := T) (N := N) ok.1 ok.2.1 ok.2.2.2.2.1 (zz_cl_ok ci _ hc).2.2.1 ty hty ok.2.2.2.1 (ok.2.2.2.2.1 _ h1) (ok.2.2.2.2.1 _ h2) (ok.2.2.2.2.1 _ h3) ok.2.2.2.2.2.1 hP hD hS ok.2.2.2.2.2.2.2 hc hfs hk hn hd (fun q H1 hP1 hD1 hS1 => kk q H1 locs la (n_Prot hP1) (n_Drot hD1) hS1 hl)
theorem n_ni (ok : n_ok Z D cA A own cc nL) {x : Int32} {N : Nat} (hx : x = nI N) (hN : N ≤ 100000) (h1 : Cond.arrayClass .int ∈ gw_tbl) (hk : k + 1 ≤ Z.2.2.2.1.cells) (hn : n + N ≤ Z.2.2.2.1.slots) (hd : decode cc pc = .ok (.newarray .int, 2))
    (kk : ∀ q, nW Z D A nL Q (pc + 2) ls (.ref q :: st) ((q, .inl (cA 0, N, .inl (fun _ => 0))) :: ws) (k + 1) (n + N)) : nW Z D A nL Q pc ls (.int x :: st) ws k n := by
  intro H locs la hP hD hS hl
  subst hx
  refine va_newa (atype := .int) (a0 := (N, .inl (fun _ => 0))) (N' := N) ok.1 ok.2.1 (ok.2.2.2.2.1 _ h1) rfl ok.2.2.2.2.2.1 hP hD hS ok.2.2.2.2.2.2.2 (fun cA => rfl) (nI_pos (by omega)) (nI_clamp (by omega)) (Nat.le_trans (Nat.mul_le_mul_right 4 hN) (by decide)) hk hn hd (fun q c1 H1 hK1 hP1 hD1 hS1 => ?_)
  have e : c1 = cA 0 := by
    have a1 : (n_s Z).vm.findClass ("[" ++ FieldType.int.toString) = some c1 := (hK1.2 4 _ rfl).2
    have a2 : (n_s Z).vm.findClass ("[" ++ FieldType.int.toString) = some (cA 0) := (ok.2.2.2.2.2.1.2 0 _ rfl).2
    exact Option.some.inj (a1.symm.trans a2)
  subst e
  exact kk q H1 locs la (n_Prot hP1) (n_Drot hD1) hS1 hl
theorem n_nz (ok : n_ok Z D cA A own cc nL) {x : Int32} {N : Nat} (hx : x = nI N) (hN : N ≤ 100000) (h1 : Cond.arrayClass .boolean ∈ gw_tbl) (hk : k + 1 ≤ Z.2.2.2.1.cells) (hn : n + N ≤ Z.2.2.2.1.slots) (hd : decode cc pc = .ok (.newarray .boolean, 2))
    (kk : ∀ q, nW Z D A nL Q (pc + 2) ls (.ref q :: st) ((q, .inl (cA 1, N, .inl (fun _ => 0))) :: ws) (k + 1) (n + N)) : nW Z D A nL Q pc ls (.int x :: st) ws k n := by
  intro H locs la hP hD hS hl
  subst hx
  refine va_newa (atype := .boolean) (a0 := (N, .inl (fun _ => 0))) (N' := N) ok.1 ok.2.1 (ok.2.2.2.2.1 _ h1) rfl ok.2.2.2.2.2.1 hP hD hS ok.2.2.2.2.2.2.2 (fun cA => rfl) (nI_pos (by omega)) (nI_clamp (by omega)) (Nat.le_trans (Nat.mul_le_mul_right 1 hN) (by decide)) hk hn hd (fun q c1 H1 hK1 hP1 hD1 hS1 => ?_)
  have e : c1 = cA 1 := by
    have a1 : (n_s Z).vm.findClass ("[" ++ FieldType.boolean.toString) = some c1 := (hK1.2 4 _ rfl).2
    have a2 : (n_s Z).vm.findClass ("[" ++ FieldType.boolean.toString) = some (cA 1) := (ok.2.2.2.2.2.1.2 1 _ rfl).2
    exact Option.some.inj (a1.symm.trans a2)
  subst e
  exact kk q H1 locs la (n_Prot hP1) (n_Drot hD1) hS1 hl
theorem n_nq (ok : n_ok Z D cA A own cc nL) {x : Int32} {N idx t : Nat} {C : String} (hx : x = nI N) (hN : N ≤ 100000) (hC : (t = 2 ∧ C = "LeaseCluster$Server") ∨ (t = 3 ∧ C = "LeaseCluster$World")) (h1 : Cond.classLink own idx C ∈ gw_tbl) (hk : k + 1 ≤ Z.2.2.2.1.cells) (hn : n + N ≤ Z.2.2.2.1.slots) (hd : decode cc pc = .ok (.anewarray idx, 3))
    (kk : ∀ q, nW Z D A nL Q (pc + 3) ls (.ref q :: st) ((q, .inl (cA t, N, .inr (.inr (.inr (.inr (fun _ => none)))))) :: ws) (k + 1) (n + N)) : nW Z D A nL Q pc ls (.int x :: st) ws k n := by
  intro H locs la hP hD hS hl
  subst hx
  have ao : va_AO C (n_s Z) := by
    rcases hC with ⟨_, rfl⟩ | ⟨_, rfl⟩
    · exact ok.2.2.2.2.2.2.1.1
    · exact ok.2.2.2.2.2.2.1.2
  refine va_newq (C := C) (N' := N) ok.1 ok.2.1 ok.2.2.2.1 (ok.2.2.2.2.1 _ h1) ao ok.2.2.2.2.2.1 hP hD hS ok.2.2.2.2.2.2.2 (nI_pos (by omega)) (nI_clamp (by omega)) (Nat.le_trans (Nat.mul_le_mul_right 4 hN) (by decide)) hk hn hd (fun q c1 H1 hK1 hP1 hD1 hS1 => ?_)
  have e : c1 = cA t := by
    obtain ⟨_, _, _, _, _, a1⟩ := (hK1.2 4 _ rfl).2
    rcases hC with ⟨rfl, rfl⟩ | ⟨rfl, rfl⟩
    · obtain ⟨_, _, _, _, _, a2⟩ := (ok.2.2.2.2.2.1.2 2 _ rfl).2
      exact Option.some.inj (a1.symm.trans a2)
    · obtain ⟨_, _, _, _, _, a2⟩ := (ok.2.2.2.2.2.1.2 3 _ rfl).2
      exact Option.some.inj (a1.symm.trans a2)
  subst e
  exact kk q H1 locs la (n_Prot hP1) (n_Drot hD1) hS1 hl
theorem n_get (ok : n_ok Z D cA A own cc nL) {C : String} {T : u_T} {N ci idx f j a : Nat} {fs : List Value} {v : Value} (hc : zz_cl[ci]? = some (C, T, N)) (hf : f < N) (h1 : Cond.fieldLink own idx (T f).1 (T f).2.1 (T f).2.2.1 ∈ gw_tbl) (he : ws[j]? = some (a, .inr (ci, fs))) (hv : fs[f]? = some v) (hd : decode cc pc = .ok (.getfield idx, 3)) (kk : nW Z D A nL Q (pc + 3) ls (v :: st) ws k n) : nW Z D A nL Q pc ls (.ref a :: st) ws k n :=
  fun H locs la hP hD hS hl => va_get (D := D) ok.1 ok.2.1 ok.2.2.2.2.1 (zz_cl_ok ci _ hc).2.2.1 ok.2.2.2.1 ok.2.2.2.2.2.1 hP j he hc f hf (ok.2.2.2.2.1 _ h1) (fun _ h9 => h9) hv hd (kk H locs la hP hD hS hl)
theorem n_put (ok : n_ok Z D cA A own cc nL) {C : String} {T : u_T} {N ci idx f j a : Nat} {fs : List Value} {v : Value} {ty : FieldType} (hc : zz_cl[ci]? = some (C, T, N)) (hf : f < N) (h1 : Cond.fieldLink own idx (T f).1 (T f).2.1 (T f).2.2.1 ∈ gw_tbl) (hfin : (T f).2.2.2 = false) (hty : parseFieldDescriptor (T f).2.2.1 = some ty) (hna : narrow ty v = v) (hfi : fits ty v = true) (he : ws[j]? = some (a, .inr (ci, fs))) (hlf : f < fs.length) (hw : ws.set j (a, .inr (ci, fs.set f v)) = ws') (hd : decode cc pc = .ok (.putfield idx, 3)) (kk : nW Z D A nL Q (pc + 3) ls st ws' k n) : nW Z D A nL Q pc ls (v :: .ref a :: st) ws k n := by
  intro H locs la hP hD hS hl
  obtain ⟨_, _, hin, ⟨ty0, hty0⟩, hnm⟩ := zz_cl_ok ci _ hc
  refine va_put (D := D) ok.1 ok.2.1 ok.2.2.2.2.1 hin ty0 hty0 hnm ok.2.2.2.1 ok.2.2.2.2.2.1 hP hD hS j he hc f hf (ok.2.2.2.2.1 _ h1) (fun _ h9 => h9) hfin hty hna hfi hlf hd (fun H1 locs1 hP1 hD1 hS1 => ?_)
  rw [hw] at hP1 hD1
  exact kk H1 locs1 la hP1 hD1 hS1 hl
theorem n_putF (ok : n_ok Z D cA A own cc nL) (hin2 : Z.2.2.2.2.2.2.2.2.1.name = "<init>") {C : String} {T : u_T} {N ci idx f j a : Nat} {fs : List Value} {v : Value} {ty : FieldType} (hc : zz_cl[ci]? = some (C, T, N)) (hf : f < N) (h1 : Cond.fieldLink own idx (T f).1 (T f).2.1 (T f).2.2.1 ∈ gw_tbl) (hfin : (T f).2.2.2 = true) (hdecl : (T f).1 = own) (hty : parseFieldDescriptor (T f).2.2.1 = some ty) (hna : narrow ty v = v) (hfi : fits ty v = true) (he : ws[j]? = some (a, .inr (ci, fs))) (hlf : f < fs.length) (hw : ws.set j (a, .inr (ci, fs.set f v)) = ws') (hd : decode cc pc = .ok (.putfield idx, 3)) (kk : nW Z D A nL Q (pc + 3) ls st ws' k n) : nW Z D A nL Q pc ls (v :: .ref a :: st) ws k n := by
  intro H locs la hP hD hS hl
  obtain ⟨_, _, hin, ⟨ty0, hty0⟩, hnm⟩ := zz_cl_ok ci _ hc
  refine va_putF (D := D) ok.1 ok.2.1 ok.2.2.2.2.1 hin ty0 hty0 hnm ok.2.2.2.1 ok.2.2.2.2.2.1 hP hD hS j he hc f hf (ok.2.2.2.2.1 _ h1) (fun _ h9 => h9) hfin hin2 hdecl hty hna hfi hlf hd (fun H1 locs1 hP1 hD1 hS1 => ?_)
  rw [hw] at hP1 hD1
  exact kk H1 locs1 la hP1 hD1 hS1 hl
theorem n_ias (ok : n_ok Z D cA A own cc nL) {j a N i : Nat} {f : Nat → Int32} {x y : Int32} (he : ws[j]? = some (a, .inl (cA 0, N, .inl f))) (hi : y = nI i) (hiN : i < N) (hN : N ≤ 100000) (hw : ws.set j (a, .inl (cA 0, N, .inl (upd f i x))) = ws') (hd : decode cc pc = .ok (.iastore, 1)) (kk : nW Z D A nL Q (pc + 1) ls st ws' k n) : nW Z D A nL Q pc ls (.int x :: .int y :: .ref a :: st) ws k n := by
  intro H locs la hP hD hS hl
  subst hi
  refine va_iast (D := D) (f := f) (x := x) ok.1 ok.2.1 ok.2.2.2.2.2.1 hP hD hS j 0 he rfl (ni_in hiN hN) hd (fun H1 locs1 hP1 hD1 hS1 => ?_)
  rw [nI_clamp (by omega), hw] at hP1 hD1
  exact kk H1 locs1 la hP1 hD1 hS1 hl
theorem n_aas (ok : n_ok Z D cA A own cc nL) {j a N i t jv v ci : Nat} {r : vw_C} {vs : List Value} {f : Nat → Option Nat} {y : Int32} (he : ws[j]? = some (a, .inl (cA t, N, .inr (.inr (.inr (.inr f)))))) (ht : (zz_ty cA)[t]? = some (cA t, .object r.1)) (hv : ws[jv]? = some (v, .inr (ci, vs))) (hc : zz_cl[ci]? = some r) (hi : y = nI i) (hiN : i < N) (hN : N ≤ 100000) (hw : ws.set j (a, .inl (cA t, N, .inr (.inr (.inr (.inr (va_up f i (some v))))))) = ws') (hd : decode cc pc = .ok (.aastore, 1)) (kk : nW Z D A nL Q (pc + 1) ls st ws' k n) : nW Z D A nL Q pc ls (.ref v :: .int y :: .ref a :: st) ws k n := by
  intro H locs la hP hD hS hl
  subst hi
  refine va_astq (D := D) ok.1 ok.2.1 ok.2.2.2.2.2.1 hP hD hS j t jv ci he ht hv hc (ni_in hiN hN) hd (fun H1 locs1 hP1 hD1 hS1 => ?_)
  rw [nI_clamp (by omega), hw] at hP1 hD1
  exact kk H1 locs1 la hP1 hD1 hS1 hl
theorem n_max (ok : n_ok Z D cA A own cc nL) {idx : Nat} {x y : Int32} (h1 : Cond.methodLink own idx Lib.Math.max.name ∈ gw_tbl) (hf : 1 ≤ Z.2.2.2.1.frames) (hloc : (st.map fun v => v.category).sum + 13 ≤ Z.2.2.2.1.locals) (hk : k ≤ Z.2.2.2.1.cells) (hn : n ≤ Z.2.2.2.1.slots) (hd : decode cc pc = .ok (.invokestatic idx, 3)) (kk : nW Z D A nL Q (pc + 3) ls (.int (if x < y then y else x) :: st) ws k n) : nW Z D A nL Q pc ls (.int y :: .int x :: st) ws k n :=
  fun H locs la hP hD hS hl => va_mmax ok.1 ok.2.1 (by rw [ok.2.2.1]; exact hl.1.symm) ok.2.2.2.1 (ok.2.2.2.2.1 _ h1) (ok.2.2.2.2.1 _ zz_stmx) (ok.2.2.2.2.1 _ zz_inim) (ok.2.2.2.2.1 _ zz_comx) hf hloc hk hn hd (kk H locs la hP hD hS hl)
theorem n_min (ok : n_ok Z D cA A own cc nL) {idx : Nat} {x y : Int32} (h1 : Cond.methodLink own idx Lib.Math.min.name ∈ gw_tbl) (hf : 1 ≤ Z.2.2.2.1.frames) (hloc : (st.map fun v => v.category).sum + 13 ≤ Z.2.2.2.1.locals) (hk : k ≤ Z.2.2.2.1.cells) (hn : n ≤ Z.2.2.2.1.slots) (hd : decode cc pc = .ok (.invokestatic idx, 3)) (kk : nW Z D A nL Q (pc + 3) ls (.int (if y < x then y else x) :: st) ws k n) : nW Z D A nL Q pc ls (.int y :: .int x :: st) ws k n :=
  fun H locs la hP hD hS hl => va_mmin ok.1 ok.2.1 (by rw [ok.2.2.1]; exact hl.1.symm) ok.2.2.2.1 (ok.2.2.2.2.1 _ h1) (ok.2.2.2.2.1 _ zz_stmn) (ok.2.2.2.2.1 _ zz_inim) (ok.2.2.2.2.1 _ zz_comn) hf hloc hk hn hd (kk H locs la hP hD hS hl)
/-- a constructor's contract: from a fresh object to the cells that it reaches -/
def nT (l : Launch) (D : va_G) (cA : Nat → ClassId) (y : MethodName) (cc : ByteArray) (nL : Nat) (rm : Room) (h0 : Nat) (fr : va_E) (As : List Value) {S : Type} (cells : S → va_W) : Prop :=
  ∀ sz : Nat, Met l y (.code y cc nL none :: gw_tbl) rm (va_Pc (.ref h0 :: As) (fun U => U.heap.size = sz ∧ va_P D zz_cl [(h0, fr)] U.heap ∧ va_K D zz_cl (zz_ty cA) U ∧ (va_AO "LeaseCluster$Server" U ∧ va_AO "LeaseCluster$World" U) ∧ va_D (fun _ => True) [(h0, fr)])) (va_Qv (fun _ : S => True) (fun u t => va_P D zz_cl (cells u) t.heap ∧ va_D (va_A [(h0, fr)] sz) (cells u)) (va_A [(h0, fr)] sz)) rm.cells rm.slots (va_A [(h0, fr)] sz)
def nQ (Z : nC) (D : va_G) (rm : Room) (h0 : Nat) (fr : va_E) {S : Type} (cells : S → va_W) : State → Prop :=
  MQ Z.2.2.2.2.2.2.2.1 (va_Qv (fun _ : S => True) (fun u t => va_P D zz_cl (cells u) t.heap ∧ va_D (va_A [(h0, fr)] (n_s Z).heap.size) (cells u)) (va_A [(h0, fr)] (n_s Z).heap.size)) Z.2.2.2.2.2.2.1 (n_s Z) rm.cells rm.slots (va_A [(h0, fr)] (n_s Z).heap.size)
theorem n_in {l : Launch} {y : MethodName} {rm : Room} {h0 : Nat} {fr : va_E} {As : List Value} {S : Type} {cells : S → va_W} (hy : plainName y.cls = true) (hyn : y.name = "<init>") (hlen : (lg_sl (.ref h0 :: As)).length ≤ nL)
    (body : ∀ Z : nC, Z.2.1 = l → Z.2.2.2.1 = rm → Z.2.2.2.2.2.2.2.2.1.sig.returnType = none → Z.2.2.2.2.2.2.2.2.1.name = "<init>" → Z.2.2.2.2.2.2.2.2.1.locks = false → n_ok Z D cA (va_A [(h0, fr)] (n_s Z).heap.size) y.cls cc nL → nW Z D (va_A [(h0, fr)] (n_s Z).heap.size) nL (nQ Z D rm h0 fr cells) 0 (lv_args 0 (.ref h0 :: As)) [] [(h0, fr)] 0 0) : nT l D cA y cc nL rm h0 fr As cells := by
  intro sz
  refine Met.ofW (cc := cc) (maxL := nL) (ret := none) hy rfl ?_
  intro p e s m args below meth c s₁ B hml hv
  obtain ⟨rfl, hsz, hP, hK, hO, hD0⟩ := hv
  subst hsz
  have hts := atoms_spec (ws := .code y cc nL none :: gw_tbl) B.pre
  have hl := lv_entry (.ref h0 :: As) (n := nL) hlen
  rw [lg_entry_eq]
  have hin : meth.name = "<init>" := (name_of_methodNamed B.named B.method).1.trans hyn
  exact body (p, l, e, rm, s, m, (Value.ref h0 :: As).toArray, below, meth, c) rfl rfl B.returns hin B.notSynchronized ⟨B.exec, B.bytes, hml, findClass_of_methodNamed B.named, fun w hw => hts w (List.mem_cons_of_mem _ hw), hK, hO, fun q h => Or.inr h⟩ s.heap [] _ hP hD0.self va_S.rf hl
theorem n_ret (ok : n_ok Z D cA A own cc nL) {rm : Room} {h0 : Nat} {fr : va_E} {S : Type} {cells : S → va_W} (hA : A = va_A [(h0, fr)] (n_s Z).heap.size) (hr : Z.2.2.2.2.2.2.2.2.1.sig.returnType = none) (hlk : Z.2.2.2.2.2.2.2.2.1.locks = false) (hd : decode cc pc = .ok (.return_, 1)) (hk : rm.cells = k) (hn : rm.slots = n) (u : S) (hw : ws = cells u) : nW Z D A nL (nQ Z D rm h0 fr cells) pc ls [] ws k n := by
  intro H locs la hP hD hS hl
  subst hA; subst hw; subst hk; subst hn
  exact W.vret ok.1 ok.2.1 hr (fun t ht _ => ⟨⟨u, rfl, trivial, by rw [ht]; exact hP, hD⟩, hS.F ht⟩) hS.2.2 hd hlk
theorem n_call (ok : n_ok Z D cA A own cc nL) {y : MethodName} {c2 : ByteArray} {n2 nA idx q : Nat} {rm : Room} {fr : va_E} {As : List Value} {S : Type} {cells : S → va_W} (hT : nT Z.2.1 D cA y c2 n2 rm q fr As cells) (h0 : Cond.code y c2 n2 none ∈ gw_tbl) (h1 : Cond.methodLink own idx y ∈ gw_tbl) (h2 : Cond.instanceMethod y ∈ gw_tbl) (h3 : Cond.initialized y.cls ∈ gw_tbl) (hyn : y.name = "<init>") (hyd : y.cls ≠ "java/lang/invoke/MethodHandle" ∧ y.cls ≠ "java/lang/invoke/VarHandle" ∧ (parseMethodDescriptor y.desc).map (fun d => d.parameters.length) = some nA) (hlen : As.length = nA)
    (hro : rm.frames + 1 ≤ Z.2.2.2.1.frames ∧ 8 + (n2 + 11) + rm.locals ≤ Z.2.2.2.1.locals) (h8 : (st.map fun v => v.category).sum ≤ 8) (hk : k + rm.cells ≤ Z.2.2.2.1.cells ∧ n + rm.slots ≤ Z.2.2.2.1.slots) (hd : decode cc pc = .ok (.invokespecial idx, 3))
    (kk : ∀ u : S, nW Z D A nL Q (pc + 3) ls st (cells u ++ ws) (k + rm.cells) (n + rm.slots)) : nW Z D A nL Q pc ls (As.reverse ++ .ref q :: st) ((q, fr) :: ws) k n := by
  obtain ⟨hx, hb, hml, hown, hts, hK, hO, hA⟩ := ok
  intro H locs la hP hD hS hl
  obtain ⟨hP0, hPr⟩ := n_Pc hP
  obtain ⟨hDr, hA0, hne⟩ := n_Dc hD
  have hP1 : va_P D zz_cl [(q, fr)] H := fun k x hk => by
    cases k with
    | zero => cases hk; exact hP0
    | succ k => simp at hk
  have hD1 : va_D (fun _ => True) [(q, fr)] := ⟨fun i j a b ha hb _ => by
    cases i with
    | zero =>
      cases j with
      | zero => rfl
      | succ j => simp at hb
    | succ i => simp at ha, fun _ _ _ => trivial⟩
  have hF : ∀ x, va_A [(q, fr)] H.size x → A x := fun x hx => by
    rcases hx with ⟨k, e, h⟩ | h
    · cases k with
      | zero => cases h; exact hA0
      | succ k => simp at h
    · exact hA x (Nat.le_trans hS.1 h)
  refine va_callv (va_runI (As := As) (rest := st) ⟨hx, hb, hml, hown, hts⟩ (hT H.size) (cwI nA hts (fun w hw => (List.mem_cons.mp hw).elim (fun e => ⟨e ▸ h0, e ▸ gw_good h0⟩) (fun h => ⟨h, gw_good h⟩)) rfl rfl rfl (hts _ h3) (hts _ h1) (hts _ h2) hyn hyd hro) ⟨fun a U g mk h => ?_, fun U hU hW => ⟨rfl, by rw [hU], by rw [hU]; exact hP1, va_K.moved hW.alike hK, ⟨va_AO.moved hW.alike hO.1, va_AO.moved hW.alike hO.2⟩, hD1⟩⟩ rfl hlen hl.1 rfl (lv_room h8) hd hk) hS (fun x _ h => hF x h) hF (fun u t H1 locs1 ht hvm hw hB hz1 hk1 hS1 => ?_)
  · obtain ⟨q0, q1, qP, qK, qO, qD⟩ := h
    exact ⟨q0, q1, qP, va_K.moved (u := U) (U := U.calling g mk a) (Vm.Alike.refl U.vm) qK, ⟨va_AO.moved (u := U) (U := U.calling g mk a) (Vm.Alike.refl U.vm) qO.1, va_AO.moved (u := U) (U := U.calling g mk a) (Vm.Alike.refl U.vm) qO.2⟩, qD⟩
  · obtain ⟨bP, bD⟩ := hB
    rw [ht] at bP
    have apart : ∀ (k : Nat) (x : Nat × va_E), ws[k]? = some x → x.1 < H.size ∧ ¬ va_A [(q, fr)] H.size x.1 := fun k x hx => by
      have hlt := (hPr k x hx).lt
      refine ⟨hlt, fun h => ?_⟩
      rcases h with ⟨i, e, h⟩ | h
      · cases i with
        | zero =>
          have e1 : q = x.1 := congrArg Prod.fst (Option.some.inj h)
          exact hne k x hx e1
        | succ i => simp at h
      · omega
    refine kk u H1 locs1 la (va_P.app bP (fun k x hx => (hPr k x hx).kept (hk1 x.1 (apart k x hx).1 (apart k x hx).2))) (va_D.app (bD.weaken (fun _ x _ h => hF x.1 h)) hDr (fun i j a b ha hb e => ?_)) hS1 hl
    exact (apart j b hb).2 (e ▸ bD.2 i a ha)
end NR
