theorem lw_in1 {w : Cond} (i : Nat) (h : tables_1_1[i]? = some w) : w ∈ lw_tbl := List.mem_append_right _ (List.mem_append_left _ (List.mem_of_getElem? h))
theorem lw_in3 {w : Cond} (i : Nat) (h : tables_1_3[i]? = some w) : w ∈ lw_tbl := List.mem_append_right _ (List.mem_append_right _ (List.mem_append_right _ (List.mem_append_left _ (List.mem_of_getElem? h))))
theorem w_D {s : State} {args : Array Value} (hts : ∀ w ∈ gw_tbl, w.before args s = true) : ∃ D : va_G, ∀ (c : Nat) (q : vw_C), zz_cl[c]? = some q → u_Kn s q.1 q.2.1 q.2.2 (D.1 c) (D.2 c) := by
  have hc : ∀ c : Nat, ∃ (cC : ClassId) (iS : Nat → Nat), ∀ q : vw_C, zz_cl[c]? = some q → u_Kn s q.1 q.2.1 q.2.2 cC iS := by
    obtain ⟨k0, j0, h0⟩ := u_known hts (zz_cl_ok 0 _ rfl).2.2.1 (n := 2) (hts _ (gw_in1 39 rfl rfl))
    obtain ⟨k1, j1, h1⟩ := u_known hts (zz_cl_ok 1 _ rfl).2.2.1 (n := 2) (hts _ (gw_in1 45 rfl rfl))
    obtain ⟨k2, j2, h2⟩ := u_known hts (zz_cl_ok 2 _ rfl).2.2.1 (n := 11) (hts _ (gw_in1 177 rfl rfl))
    obtain ⟨k3, j3, h3⟩ := u_known hts (zz_cl_ok 3 _ rfl).2.2.1 (n := 9) (hts _ (gw_in1 33 rfl rfl))
    obtain ⟨k4, j4, h4⟩ := u_known hts (zz_cl_ok 4 _ rfl).2.2.1 (n := 12) (hts _ (gw_in1 26 rfl rfl))
    obtain ⟨k5, j5, h5⟩ := u_known hts (zz_cl_ok 5 _ rfl).2.2.1 (n := 4) (hts _ (gw_in1 12 rfl rfl))
    obtain ⟨k6, j6, h6⟩ := u_known hts (zz_cl_ok 6 _ rfl).2.2.1 (n := 12) (hts _ (gw_in3 203 rfl rfl))
    intro c
    match c with
    | 0 => exact ⟨k0, j0, fun q hq => by cases hq; exact h0⟩
    | 1 => exact ⟨k1, j1, fun q hq => by cases hq; exact h1⟩
    | 2 => exact ⟨k2, j2, fun q hq => by cases hq; exact h2⟩
    | 3 => exact ⟨k3, j3, fun q hq => by cases hq; exact h3⟩
    | 4 => exact ⟨k4, j4, fun q hq => by cases hq; exact h4⟩
    | 5 => exact ⟨k5, j5, fun q hq => by cases hq; exact h5⟩
    | 6 => exact ⟨k6, j6, fun q hq => by cases hq; exact h6⟩
    | n + 7 => exact ⟨k0, j0, fun q hq => by simp [zz_cl] at hq⟩
  exact ⟨(fun c => (hc c).choose, fun c => (hc c).choose_spec.choose), fun c q hq => (hc c).choose_spec.choose_spec q hq⟩
theorem w_A {s : State} {args : Array Value} (hts : ∀ w ∈ lw_tbl, w.before args s = true) : ∃ cA : Nat → ClassId, ∀ (k : Nat) (q : ClassId × FieldType), (zz_ty cA)[k]? = some q → ArrOfT s q.1 q.2 ∧ va_RA s q.1 q.2 := by
  obtain ⟨c0, k0, p0, a1, a2, a3⟩ := Cond.arrayClass_spec (hts (.arrayClass .int) (lw_in1 62 rfl))
  obtain ⟨c1, k1, p1, b1, b2, b3⟩ := Cond.arrayClass_spec (hts (.arrayClass .boolean) (lw_in1 221 rfl))
  obtain ⟨p2, c2, k2, d1, d2, d3, d4, d5⟩ := Cond.arrayOver_spec (hts (.arrayOver (.object "LeaseCluster$Server")) (lw_in1 32 rfl))
  obtain ⟨p3, c3, k3, e1, e2, e3, e4, e5⟩ := Cond.arrayOver_spec (hts (.arrayOver (.object "LeaseCluster$World")) (lw_in1 175 rfl))
  refine ⟨fun t => match t with | 0 => c0 | 1 => c1 | 2 => c2 | _ => c3, fun k q hk => ?_⟩
  match k with
  | 0 => cases hk; exact ⟨fun n z => ⟨fun k h => (by cases h), k0, a2, p0, a3⟩, a1⟩
  | 1 => cases hk; exact ⟨fun n z => ⟨fun k h => (by cases h), k1, b2, p1, b3⟩, b1⟩
  | 2 => cases hk; exact ⟨fun n z => ⟨fun k h => (by cases h), k2, d3, p2, d4⟩, k2, p2, d3, d4, d1, d5⟩
  | 3 => cases hk; exact ⟨fun n z => ⟨fun k h => (by cases h), k3, e3, p3, e4⟩, k3, p3, e3, e4, e1, e5⟩
  | n + 4 => simp [zz_ty] at hk
theorem w_N {s : State} {args : Array Value} (hts : ∀ w ∈ lw_tbl, w.before args s = true) : zz_N s := ⟨va_Nw.of rfl (hts _ (lw_in3 29 rfl)), va_Nw.of rfl (hts _ (lw_in3 117 rfl))⟩
theorem w_new {ad : zR → Nat} {cA : Nat → ClassId} {M : zM} {A : Nat → Prop} (hD : va_D A (zzl ad cA M gls)) : ∀ r ∈ gls, A (ad r) := fun r hr => by
  obtain ⟨i, hi⟩ := List.getElem?_of_mem hr
  have ei : (zzl ad cA M gls)[i]? = some (ad r, zz_ce ad cA M r) := by unfold zzl; rw [List.getElem?_map, hi]; rfl
  exact hD.2 i _ ei
theorem w_56 {l : Launch} {D : va_G} {cA : Nat → ClassId} {ad : zR → Nat} : l56 (gG l D cA ad) := ⟨show (5, 0, 0) ∈ gls by decide +kernel, show (6, 0, 0) ∈ gls by decide +kernel⟩
