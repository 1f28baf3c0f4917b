/-- pc 28, from the world that the two constructors left -/
theorem w_28 {p : Program} {e : Env} {s : State} {m : MethodId} {below : List Frame} {meth : Method} {c : Code} (l : Launch) {b L : Nat} {xs : Nat → Int32} (hL : L ≤ 2049) (C0 : lw_At p s m meth c b L xs) {D : va_G} {cA : Nat → ClassId} (hK : va_K D zz_cl (zz_ty cA) s) {x : Int32} {h1 h2 : Nat} {u : SL} {v : SM} :
    nW (p, l, e, room_1, s, m, #[Value.ref b], below, meth, c) D (fun q => s.heap.size ≤ q) 4 (lw_Z below #[Value.ref b] s) 28 [(3, .int (nI 1)), (2, .ref h2), (1, .ref h1), (0, .ref b)] [] (moC cA (mdb x) h2 v ++ leC cA (kpt x) h1 u) 144 12392 := by
  intro H locs la hP hD hS hl
  rw [← zl_all] at hP hD
  have ok : l_ok (p, l, e, s, m, below, meth, c, b) (gG l D cA (adF h1 u h2 v)) L xs := ⟨C0, hL, gG_go hD, ⟨hK, w_N C0.2.2.2.2.2.1⟩, w_new hD, rfl⟩
  exact l_loop ok w_56 (d := (mdb x).toInt) 2049 1 0 (m0 (kpt x) (mdb x), 0) (by omega) (by omega) (by omega) (by omega) (inv_first x) H locs la hP hS (lv_sub hl [0, 3, 2, 1] rfl)
theorem whole_start {p : Program} {e : Env} {s : State} {m : MethodId} {below : List Frame} {meth : Method} {c : Code} (l : Launch) (hflags : l.flags = flags0) {b L : Nat} {xs : Nat → Int32} (hL : L ≤ 2049) (C0 : lw_At p s m meth c b L xs) : W p l e room_1 s m #[Value.ref b] below meth c s.heap [] 0 0 (lw_Z below #[Value.ref b] s) (entryFrame m ([Value.ref b] : List Value).toArray 4) := by
  have C1 := C0
  obtain ⟨hx, hb, hrt, hml, hown, hts, hX, hbl, hlocks, hgv⟩ := C0
  have hts2 : ∀ w ∈ gw_tbl, w.before #[Value.ref b] s = true := fun w hw => hts w (gw_lw hw)
  obtain ⟨D, hD⟩ := w_D hts2
  obtain ⟨cA, hA⟩ := w_A hts
  have hK : va_K D zz_cl (zz_ty cA) s := ⟨hD, hA⟩
  have ok : n_ok (p, l, e, room_1, s, m, #[Value.ref b], below, meth, c) D cA (fun q => s.heap.size ≤ q) "LeaseClusterLaw" code 4 := ⟨hx, hb, hml, hown, hts2, hK, ⟨va_AO.of (hts _ (lw_in1 32 rfl)), va_AO.of (hts _ (lw_in1 175 rfl))⟩, fun q h => h⟩
  have hl := lv_entry [.ref b] (n := 4) (Nat.le_of_ble_eq_true rfl)
  have nbA : ¬ s.heap.size ≤ b := Nat.not_le.mpr hbl
  rw [lg_entry_eq]
  suffices h : nW (p, l, e, room_1, s, m, #[Value.ref b], below, meth, c) D (fun q => s.heap.size ≤ q) 4 (lw_Z below #[Value.ref b] s) 0 [(0, .ref b)] [] [] 0 0 from
    h s.heap [] _ (fun k q hk => by simp at hk) ⟨fun i j a b ha => by simp at ha, fun k q hk => by simp at hk⟩ va_S.rf hl
  refine n_new ok (ci := 5) (fs := [.null, .null, .null, .null]) rfl tyX5 tyX5_ok (by decide) (gw_in1 11 rfl rfl) (gw_in1 12 rfl rfl) (gw_in1 1 rfl rfl) (Nat.le_of_ble_eq_true rfl) (Nat.le_of_ble_eq_true rfl) lat_0 (fun h1 => ?_)
  refine n_dup ok lat_3 ?_
  refine n_al ok (j := 0) lat_4 rfl ?_
  refine n_ic ok (v := 0) lat_5 (by decide) ?_
  refine n_cell ok hL hX hbl nbA ⟨Nat.le_of_ble_eq_true rfl, Nat.le_of_ble_eq_true rfl⟩ ⟨Nat.le_of_ble_eq_true rfl, Nat.le_of_ble_eq_true rfl⟩ (Nat.le_of_ble_eq_true rfl) lat_6 ?_
  generalize hfx : fst0 L xs = x
  refine n_call ok (nA := 1) (As := [.int x]) (st := [.ref h1]) (c_Le l D cA x h1) (gw_in1 15 rfl rfl) (gw_in1 13 rfl rfl) (gw_in1 14 rfl rfl) (gw_in1 1 rfl rfl) rfl (by decide +kernel) rfl ⟨Nat.le_of_ble_eq_true rfl, Nat.le_of_ble_eq_true rfl⟩ (Nat.le_of_ble_eq_true rfl) ⟨Nat.le_of_ble_eq_true rfl, Nat.le_of_ble_eq_true rfl⟩ lat_9 (fun u => ?_)
  rw [List.append_nil]
  refine n_ast ok lat_12 (by decide) (ls' := [(1, .ref h1), (0, .ref b)]) rfl ?_
  refine n_new ok (ci := 6) (fs := [.null, .null, .null, .int 0, .null, .int 0, .int 0, .null, .null, .int 0, .int 0, .long 0]) rfl tyX6 tyX6_ok (by decide) (gw_in3 202 rfl rfl) (gw_in3 203 rfl rfl) (gw_in1 8 rfl rfl) (Nat.le_of_ble_eq_true rfl) (Nat.le_of_ble_eq_true rfl) lat_13 (fun h2 => ?_)
  refine n_dup ok lat_16 ?_
  refine n_al ok (j := 1) lat_17 rfl ?_
  refine n_ic ok (v := 0) lat_18 (by decide) ?_
  refine n_cell ok hL hX hbl nbA ⟨Nat.le_of_ble_eq_true rfl, Nat.le_of_ble_eq_true rfl⟩ ⟨Nat.le_of_ble_eq_true rfl, Nat.le_of_ble_eq_true rfl⟩ (Nat.le_of_ble_eq_true rfl) lat_19 ?_
  rw [hfx]
  refine n_call ok (nA := 1) (As := [.int x]) (st := [.ref h2]) (c_Mo l D cA x h2) (gw_in3 206 rfl rfl) (gw_in3 204 rfl rfl) (gw_in3 205 rfl rfl) (gw_in1 8 rfl rfl) rfl (by decide +kernel) rfl ⟨Nat.le_of_ble_eq_true rfl, Nat.le_of_ble_eq_true rfl⟩ (Nat.le_of_ble_eq_true rfl) ⟨Nat.le_of_ble_eq_true rfl, Nat.le_of_ble_eq_true rfl⟩ lat_22 (fun v => ?_)
  refine n_ast ok lat_25 (by decide) (ls' := [(2, .ref h2), (1, .ref h1), (0, .ref b)]) rfl ?_
  refine n_ic ok (v := nI 1) lat_26 (by decide) ?_
  refine n_is ok lat_27 (by decide) (ls' := [(3, .int (nI 1)), (2, .ref h2), (1, .ref h1), (0, .ref b)]) rfl ?_
  have e1 : 0 + 1 + rm_Le.cells + 1 + rm_Mo.cells = 144 := rfl
  have e2 : 0 + 4 + rm_Le.slots + 12 + rm_Mo.slots = 12392 := rfl
  rw [e1, e2]
  exact w_28 l hL C1 hK
