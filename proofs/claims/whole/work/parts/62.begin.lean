/-! the law's begin: its cell(), its classes, its arrays' classes -/
def yL_cell : MethodName := ⟨"LeaseClusterLaw", "cell", "([II)I"⟩
def rm_ce : Room := { frames := 0, cells := 0, slots := 0, locals := 0 }
def fst0 (L : Nat) (xs : Nat → Int32) : Int32 := if 0 < L then xs 0 else 0
theorem dce_0 : decode method_2_code 0 = .ok (.iload_n 1, 1) := by decide +kernel
theorem dce_1 : decode method_2_code 1 = .ok (.aload_n 0, 1) := by decide +kernel
theorem dce_2 : decode method_2_code 2 = .ok (.arraylength, 1) := by decide +kernel
theorem dce_3 : decode method_2_code 3 = .ok (.if_icmp .ge 9, 3) := by decide +kernel
theorem dce_6 : decode method_2_code 6 = .ok (.aload_n 0, 1) := by decide +kernel
theorem dce_7 : decode method_2_code 7 = .ok (.iload_n 1, 1) := by decide +kernel
theorem dce_8 : decode method_2_code 8 = .ok (.iaload, 1) := by decide +kernel
theorem dce_9 : decode method_2_code 9 = .ok (.goto 4, 3) := by decide +kernel
theorem dce_12 : decode method_2_code 12 = .ok (.iconst 0, 1) := by decide +kernel
theorem dce_13 : decode method_2_code 13 = .ok (.ireturn, 1) := by decide +kernel
theorem c_cell (l : Launch) {b L : Nat} {xs : Nat → Int32} (hL : L ≤ 2049) : Met l yL_cell (.code yL_cell method_2_code 2 (some .int) :: gw_tbl) rm_ce (va_Pc [.ref b, .int 0] (fun U => va_X b L xs U U.heap)) (va_Qi (S := Unit) (fun r _ => r = fst0 L xs) (fun _ _ => True) (fun _ => False)) 0 0 (fun _ => False) := by
  refine Met.ofW (cc := method_2_code) (maxL := 2) (ret := some .int) (by decide) rfl ?_
  intro p e s m args below meth c s₁ B hml hv
  obtain ⟨rfl, hX⟩ := hv
  have hl := lv_entry [.ref b, .int 0] (n := 2) (Nat.le_of_ble_eq_true rfl)
  rw [lg_entry_eq]
  have hbl : b < s.heap.size := by
    obtain ⟨scr, h1, _⟩ := hX
    exact (Array.getElem?_eq_some_iff.mp h1).1
  have hS : va_S (fun _ => False) s.heap s.heap [] := va_S.rf
  have hlk := B.notSynchronized
  refine lv_iload_n B.exec B.bytes dce_0 rfl (lv_at hl 1 rfl) ?_
  refine lv_aload_n B.exec B.bytes dce_1 rfl (lv_at hl 0 rfl) ?_
  refine va_slen B.exec B.bytes hX hbl id hS dce_2 ?_
  refine lv_icmp_ge B.exec B.bytes dce_3 (tgt := 12) (by decide) (fun h => ?_) (fun h => ?_)
  · refine lv_iconst (v := 0) B.exec B.bytes dce_12 (by decide) ?_
    have h0 : ¬ 0 < L := fun z => nI_nle z (by omega) h
    exact W.iret B.exec B.bytes B.returns (fun t ht hW => ⟨⟨_, (), rfl, (if_neg h0).symm, trivial⟩, hS.F ht⟩) (fun q h => by cases h) dce_13 hlk
  · have h0 : 0 < L := Nat.pos_of_ne_zero (fun z => h (by subst z; decide))
    refine lv_aload_n B.exec B.bytes dce_6 rfl (lv_at hl 0 rfl) ?_
    refine lv_iload_n B.exec B.bytes dce_7 rfl (lv_at hl 1 rfl) ?_
    refine va_sld B.exec B.bytes hX hbl id hS (i := nI 0) (vp_in_nI h0 (by omega)) dce_8 ?_
    refine lv_goto B.exec B.bytes dce_9 (tgt := 13) (by decide) ?_
    exact W.iret B.exec B.bytes B.returns (fun t ht hW => ⟨⟨_, (), rfl, (if_pos h0).symm, trivial⟩, hS.F ht⟩) (fun q h => by cases h) dce_13 hlk
section NB
variable {Z : nC} {D : va_G} {cA : Nat → ClassId} {A : Nat → Prop} {own : String} {cc : ByteArray} {nL : Nat} {Q : State → Prop} {pc k n : Nat} {ls ls' : List (Nat × Value)} {st : List Value} {ws ws' : va_W}
theorem n_ast (ok : n_ok Z D cA A own cc nL) {i : Fin 4} {x : Nat} (hd : decode cc pc = .ok (.astore_n i, 1)) (hn : i.val < nL) (hl' : (i.val, Value.ref x) :: ls.filter (fun q => !(q.1 == i.val) && !(q.1 + 1 == i.val && q.2.category == 2)) = ls') (kk : nW Z D A nL Q (pc + 1) ls' st ws k n) : nW Z D A nL Q pc ls (.ref x :: st) ws k n :=
  fun H locs la hP hD hS hl => lv_astore_n ok.1 ok.2.1 hd rfl hl hn hl' (fun la hl => kk H locs la hP hD hS hl)
theorem n_cell (ok : n_ok Z D cA A "LeaseClusterLaw" cc nL) {b L : Nat} {xs : Nat → Int32} (hL : L ≤ 2049) (hX : va_X b L xs (n_s Z) (n_s Z).heap) (hbl : b < (n_s Z).heap.size) (hbA : ¬ A b) (hro : 1 ≤ Z.2.2.2.1.frames ∧ 21 ≤ Z.2.2.2.1.locals) (hk : k ≤ Z.2.2.2.1.cells ∧ n ≤ Z.2.2.2.1.slots) (h8 : (st.map fun v => v.category).sum ≤ 8) (hd : decode cc pc = .ok (.invokestatic 9, 3))
    (kk : nW Z D A nL Q (pc + 3) ls (.int (fst0 L xs) :: st) ws k n) : nW Z D A nL Q pc ls (.int 0 :: .ref b :: st) ws k n := by
  obtain ⟨hx, hb, hml, hown, hts, hK, hO, hA⟩ := ok
  intro H locs la hP hD hS hl
  have h0 : Cond.code yL_cell method_2_code 2 (some .int) ∈ gw_tbl := gw_in3 201 rfl rfl
  have cb := callB_of (R := Z.2.2.2.1) (rm := rm_ce) (mc := 0) (ms := 0) (own := "LeaseClusterLaw") (index := 9) (y := yL_cell) 2 hts (ws := .code yL_cell method_2_code 2 (some .int) :: gw_tbl) (fun w hw => (List.mem_cons.mp hw).elim (fun e => ⟨e ▸ h0, e ▸ gw_good h0⟩) (fun h => ⟨h, gw_good h⟩)) rfl rfl rfl (hts (.initialized "LeaseClusterLaw") (gw_in1 0 rfl rfl)) (hts _ (gw_in3 199 rfl rfl)) (by decide +kernel) hro
  refine va_calli (va_runS (As := [.ref b, .int 0]) (rest := st) ⟨hx, hb, hml, hown, hts⟩ (c_cell Z.2.1 (b := b) (xs := xs) hL) ⟨cb, hts _ (gw_in3 200 rfl rfl)⟩ ⟨fun a U g mk h => ?_, fun U hU hW => ⟨rfl, ?_⟩⟩ rfl rfl hl.1 rfl (lv_room h8) hd hk) hS (fun x _ h => h.elim) (fun q h => h.elim) (fun r u t H1 locs1 ht hvm hr hB hz1 hk1 hS1 => ?_)
  · exact ⟨h.1, va_X.moved (u := U) (U := U.calling g mk a) (Vm.Alike.refl U.vm) h.2⟩
  · show va_X b L xs U U.heap
    rw [hU]
    exact va_X.moved hW.alike (va_X.kept hX (hS.2.1 b hbl hbA))
  · rw [hr]
    exact kk H1 locs1 la (hP.kept (fun k x hx => hk1 x.1 (hP k x hx).lt id)) hD hS1 hl
end NB
