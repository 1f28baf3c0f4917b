section ZQ
variable {G : zG} {Z : zC} {md md2 : zD} {post : Option zV → zM → Prop}
theorem zz_cS (ok : zz_ok G Z md) {pc pc' idx n nn : Nat} {i : Int32} {ls ls' : zL} {st st' as rest : List zV} {M M' : zM} {P : Prop} (h : zz_run (zz_code md) (zz_stops md) 400 pc (zz_suf (zz_code md) pc) false ls st M = some (P, pc', ls', st', M')) (hP : P) (he : zz_ent (zz_code md) pc' = some (44, i, idx, 1, nn)) (hl0 : Cond.methodLink md.2.2.2.2.1 idx md2.1 ∈ gw_tbl) (hc : zz_cal md2 n true) (hro : zz_rok md md2 = true) (ht : zz_tk n st' [] = some (as, rest)) (h8 : Nat.ble (zz_sum rest) 8 = true)
    (hw : zz_T G md2 as M' (fun r M2 => zz_W G Z md post nn ls' (zz_psh r rest) M2)) : zz_W G Z md post pc ls st M := zz_g ok h hP (zz_cS0 ok he hl0 hc hro ht h8 hw)
theorem zz_cN (ok : zz_ok G Z md) {pc pc' idx n nn : Nat} {i : Int32} {ls ls' : zL} {st st' as rest : List zV} {M M' : zM} {P : Prop} (h : zz_run (zz_code md) (zz_stops md) 400 pc (zz_suf (zz_code md) pc) false ls st M = some (P, pc', ls', st', M')) (hP : P) (he : zz_ent (zz_code md) pc' = some (44, i, idx, 2, nn)) (hl0 : ∀ U, zz_N U → va_Nw (.methodLinkNest md.2.2.2.2.1 idx md2.1 "LeaseCluster") U) (hc : zz_cal md2 n true) (hro : zz_rok md md2 = true) (ht : zz_tk n st' [] = some (as, rest)) (h8 : Nat.ble (zz_sum rest) 8 = true)
    (hw : zz_T G md2 as M' (fun r M2 => zz_W G Z md post nn ls' (zz_psh r rest) M2)) : zz_W G Z md post pc ls st M := zz_g ok h hP (zz_cN0 ok he hl0 hc hro ht h8 hw)
theorem zz_cV (ok : zz_ok G Z md) {pc pc' idx n nn ci : Nat} {i : Int32} {ls ls' : zL} {st st' as rest : List zV} {M M' : zM} {P : Prop} {r : zR} (h : zz_run (zz_code md) (zz_stops md) 400 pc (zz_suf (zz_code md) pc) false ls st M = some (P, pc', ls', st', M')) (hP : P) (he : zz_ent (zz_code md) pc' = some (44, i, idx, 0, nn)) (hl0 : Cond.methodLink md.2.2.2.2.1 idx md2.1 ∈ gw_tbl) (hc : zz_cal md2 n false) (hro : zz_rok md md2 = true) (ht : zz_tk (n + 1) st' [] = some (.inr (.inr r) :: as, rest)) (hci : zz_ci r = some ci) (hcn : md2.1.cls = zz_cn ci) (h8 : Nat.ble (zz_sum rest) 8 = true)
    (hw : zz_T G md2 (.inr (.inr r) :: as) M' (fun r M2 => zz_W G Z md post nn ls' (zz_psh r rest) M2)) : zz_W G Z md post pc ls st M := zz_g ok h hP (zz_cV0 ok he hl0 hc hro ht hci hcn h8 hw)
/-- run on to the end: an int, a truth value, nothing, a long -/
theorem zz_i (ok : zz_ok G Z md) {pc pc' y n : Nat} {ls ls' : zL} {st : List zV} {M M' : zM} {P : Prop} {v i : Int32} (h : zz_run (zz_code md) (zz_stops md) 400 pc (zz_suf (zz_code md) pc) false ls st M = some (P, pc', ls', [.inl v], M')) (hP : P) (he : zz_ent (zz_code md) pc' = some (43, i, 1, y, n)) (hr : md.2.2.2.1 = some .int) (k : post (some (.inl v)) M') : zz_W G Z md post pc ls st M := zz_g ok h hP (zz_ret1 ok he (Or.inl hr) k)
theorem zz_z (ok : zz_ok G Z md) {pc pc' y n : Nat} {ls ls' : zL} {st : List zV} {M M' : zM} {P : Prop} {v i : Int32} (h : zz_run (zz_code md) (zz_stops md) 400 pc (zz_suf (zz_code md) pc) false ls st M = some (P, pc', ls', [.inl v], M')) (hP : P) (he : zz_ent (zz_code md) pc' = some (43, i, 1, y, n)) (hr : md.2.2.2.1 = some .boolean) (h01 : v = 0 ∨ v = 1) (k : post (some (.inl v)) M') : zz_W G Z md post pc ls st M := zz_g ok h hP (zz_ret1 ok he (Or.inr ⟨hr, h01⟩) k)
theorem zz_v (ok : zz_ok G Z md) {pc pc' y n : Nat} {ls ls' : zL} {st : List zV} {M M' : zM} {P : Prop} {i : Int32} (h : zz_run (zz_code md) (zz_stops md) 400 pc (zz_suf (zz_code md) pc) false ls st M = some (P, pc', ls', [], M')) (hP : P) (he : zz_ent (zz_code md) pc' = some (43, i, 0, y, n)) (hr : md.2.2.2.1 = none) (k : post none M') : zz_W G Z md post pc ls st M := zz_g ok h hP (zz_ret0 ok he hr k)
theorem zz_l (ok : zz_ok G Z md) {pc pc' y n : Nat} {ls ls' : zL} {st : List zV} {M M' : zM} {P : Prop} {v : Int64} {i : Int32} (h : zz_run (zz_code md) (zz_stops md) 400 pc (zz_suf (zz_code md) pc) false ls st M = some (P, pc', ls', [.inr (.inl v)], M')) (hP : P) (he : zz_ent (zz_code md) pc' = some (43, i, 2, y, n)) (hr : md.2.2.2.1 = some .long) (k : post (some (.inr (.inl v))) M') : zz_W G Z md post pc ls st M := zz_g ok h hP (zz_ret2 ok he hr k)
/-- switches -/
def zz_sw (a : Int32) (K : Nat → Prop) : List (Int32 × Nat) → Nat → Prop
  | [], d => K d
  | (v, t) :: r, d => (a = v → K t) ∧ (¬ a = v → zz_sw a K r d)
theorem zz_sw_out {a : Int32} {K : Nat → Prop} : ∀ {cs : List (Int32 × Nat)} {d : Nat}, (∀ q ∈ cs, ¬ a = q.1) → zz_sw a K cs d → K d
  | [], _, _, h => h
  | (v, t) :: r, d, hn, h => zz_sw_out (fun q hq => hn q (List.mem_cons_of_mem _ hq)) (h.2 (hn _ List.mem_cons_self))
theorem zz_sw_in {a : Int32} {K : Nat → Prop} : ∀ {cs : List (Int32 × Nat)} {d j t : Nat}, cs[j]? = some (a, t) → (∀ i, i < j → ∀ q, cs[i]? = some q → ¬ a = q.1) → zz_sw a K cs d → K t
  | [], _, j, _, hj, _, _ => by simp at hj
  | (v, t0) :: r, d, 0, t, hj, _, h => by
    simp at hj
    exact hj.2 ▸ h.1 hj.1.symm
  | (v, t0) :: r, d, j + 1, t, hj, hn, h => by
    have h0 := hn 0 (Nat.succ_pos _) (v, t0) rfl
    exact zz_sw_in (by simpa using hj) (fun i hi q hq => hn (i + 1) (Nat.succ_lt_succ hi) q (by simpa using hq)) (h.2 h0)
def zz_tok (pc : Nat) (df lo hi : Int) (offs : Array Int) (cs : List (Int32 × Nat)) (dt : Nat) : Bool :=
  decide (df = (dt : Int) - (pc : Int)) && (decide (hi = lo + (cs.length : Int) - 1) && (List.range cs.length).all (fun j => match cs[j]?, offs[j]? with
    | some (v, t), some o => decide (v.toInt = lo + (j : Int)) && decide (o = (t : Int) - (pc : Int))
    | _, _ => false))
theorem zz_tsw (ok : zz_ok G Z md) {pc len : Nat} {ls : zL} {st : List zV} {M : zM} {a : Int32} {df lo hi : Int} {offs : Array Int} (hd : decode md.2.1 pc = .ok (.tableswitch df lo hi offs, len)) (cs : List (Int32 × Nat)) (dt : Nat) (hc : zz_tok pc df lo hi offs cs dt = true) (k : zz_sw a (fun t => zz_W G Z md post t ls st M) cs dt) : zz_W G Z md post pc ls (.inl a :: st) M := by
  obtain ⟨hG, hx, hb, hr0, hml, hown, hts, hlk, hK, hmd⟩ := ok
  intro hl1 hl2 H locs la hP hS hl
  simp only [zz_tok, Bool.and_eq_true, decide_eq_true_eq, List.all_eq_true, List.mem_range] at hc
  obtain ⟨h1, h2, h3⟩ := hc
  have h4 : ∀ (j : Nat) (q : Int32 × Nat), cs[j]? = some q → q.1.toInt = lo + (j : Int) ∧ offs[j]? = some ((q.2 : Int) - (pc : Int)) := by
    intro j q hq
    have hj : j < cs.length := (List.getElem?_eq_some_iff.mp hq).1
    have h5 := h3 j hj
    rw [hq] at h5
    cases ho : offs[j]? with
    | none => rw [ho] at h5; simp at h5
    | some o =>
      rw [ho] at h5
      simp only [Bool.and_eq_true, decide_eq_true_eq] at h5
      exact ⟨h5.1, by rw [h5.2]⟩
  by_cases ho : a.toInt < lo ∨ hi < a.toInt
  · refine lv_tableOut hx hb hd ho (tgt := dt) (by omega) (zz_sw_out (fun q hq => ?_) k hl1 (zz_lvt hl2) H locs la hP hS hl)
    obtain ⟨j, hj⟩ := List.getElem?_of_mem hq
    have hjl : j < cs.length := (List.getElem?_eq_some_iff.mp hj).1
    have h6 := (h4 j q hj).1
    intro e
    rw [e] at ho
    omega
  · have hj0 : (a.toInt - lo).toNat < cs.length := by omega
    obtain ⟨q, hq⟩ : ∃ q, cs[(a.toInt - lo).toNat]? = some q := ⟨_, List.getElem?_eq_getElem hj0⟩
    obtain ⟨h6, h7⟩ := h4 _ q hq
    have hqa : q.1 = a := Int32.toInt_inj.mp (by omega)
    refine lv_tableIn hx hb hd (by omega) (by omega) h7 (tgt := q.2) (by omega) (zz_sw_in (j := (a.toInt - lo).toNat) (t := q.2) (by rw [hq, ← hqa]) (fun i hi q' hq' e => ?_) k hl1 (zz_lvt hl2) H locs la hP hS hl)
    have h8 := (h4 i q' hq').1
    rw [← e] at h8
    omega
end ZQ
