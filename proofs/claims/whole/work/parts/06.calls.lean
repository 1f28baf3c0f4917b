/-- what the tables say of a method that is called: st, whether it is static; n, its arguments -/
def zz_cal (md : zD) (n : Nat) (st : Bool) : Prop :=
  Cond.code md.1 md.2.1 md.2.2.1 md.2.2.2.1 ∈ gw_tbl ∧ Cond.initialized md.1.cls ∈ gw_tbl ∧ (md.1.cls ≠ "java/lang/invoke/MethodHandle" ∧ md.1.cls ≠ "java/lang/invoke/VarHandle" ∧ (parseMethodDescriptor md.1.desc).map (fun d => d.parameters.length) = some n) ∧
  (st = true → Cond.static md.1 ∈ gw_tbl) ∧ (st = false → Cond.instanceMethod md.1 ∈ gw_tbl ∧ Cond.selects md.1.cls md.1 md.1 ∈ gw_tbl)
def zz_rok (md md2 : zD) : Bool := Nat.ble (md2.2.2.2.2.2.1.1 + 1) md.2.2.2.2.2.1.1 && Nat.ble (8 + (md2.2.2.1 + 11) + md2.2.2.2.2.2.1.2) md.2.2.2.2.2.1.2
theorem gw_good {w : Cond} (h : w ∈ gw_tbl) : (w.onTables && w.keeps) = true ∨ ∃ ty, w = .arrayClass ty := good_of_word (List.mem_filter.mp h).2
theorem gw_G {md : zD} (h : Cond.code md.1 md.2.1 md.2.2.1 md.2.2.2.1 ∈ gw_tbl) : GoodIn gw_tbl (zz_ws md) := fun w hw => (List.mem_cons.mp hw).elim (fun e => ⟨e ▸ h, e ▸ gw_good h⟩) (fun h => ⟨h, gw_good h⟩)
theorem zz_tk_eq : ∀ (n : Nat) (st acc as rest : List zV), zz_tk n st acc = some (as, rest) → acc.reverse ++ st = as.reverse ++ rest
  | 0, st, acc, as, rest, h => by cases h; rfl
  | n + 1, [], acc, as, rest, h => by cases h
  | n + 1, v :: st, acc, as, rest, h => by
    have := zz_tk_eq n st (v :: acc) as rest h
    simpa using this
theorem zz_tk_len : ∀ (n : Nat) (st acc as rest : List zV), zz_tk n st acc = some (as, rest) → as.length = n + acc.length
  | 0, st, acc, as, rest, h => by cases h; simp
  | n + 1, [], acc, as, rest, h => by cases h
  | n + 1, v :: st, acc, as, rest, h => by
    have := zz_tk_len n st (v :: acc) as rest h
    simp at this
    omega
theorem zz_Kw {G : zG} {s U : State} (hW : s.WarmedH U.vm) (h : zz_K G s) : zz_K G U := ⟨va_K.moved hW.alike h.1, va_Nw.warmM hW h.2.1, va_Nw.warmM hW h.2.2⟩
theorem zz_blind (G : zG) (av : List Value) (M : zM) : FrameBlind (va_Pc av (fun U => va_P G.2.1 zz_cl (zz_w G M) U.heap ∧ zz_K G U)) := by
  intro a U g mk h
  obtain ⟨h0, hP, hK, h1, h2⟩ := h
  exact ⟨h0, hP, va_K.moved (u := U) (U := U.calling g mk a) (Vm.Alike.refl U.vm) hK, va_Nw.same rfl (u := U) (U := U.calling g mk a) rfl h1, va_Nw.same rfl (u := U) (U := U.calling g mk a) rfl h2⟩
section ZC
variable {G : zG} {Z : zC} {md md2 : zD} {post : Option zV → zM → Prop}
/-- behind a call -/
theorem zz_aft {Q : State → Prop} {p : Program} {l : Launch} {e : Env} {R : Room} {s : State} {m : MethodId} {args : Array Value} {below : List Frame} {meth : Method} {c : Code} {H : Heap} {locs : List Loc} {pc : Nat} {la : Array Slot} {st0 rest : List Value} {a : Array Value} {post : Option zV → zM → Prop}
    (hr : va_Run p l e R s m args below meth c H locs 0 0 0 0 (F0 m pc la st0) rest (zz_Q G post a) (zz_A G)) (hS : va_S (zz_A G) s.heap H locs)
    (kk : ∀ (r : Option zV) (M : zM) (H1 : Heap) (locs1 : List Loc), post r M → (∀ v ∈ r, zz_lv G v) → va_P G.2.1 zz_cl (zz_w G M) H1 → va_S (zz_A G) s.heap H1 locs1 → W p l e R s m args below meth c H1 locs1 0 0 Q (F0 m (pc + 3) la ((r.map (zz_cv G.2.2.1)).toList ++ rest))) : W p l e R s m args below meth c H locs 0 0 Q (F0 m pc la st0) := by
  intro T hT X
  obtain ⟨v, st₀, t, T', L, h0, X', hL, e1, e2, ⟨⟨r, M, hv, hp, hlv, hb⟩, hz, hk⟩, st⟩ := hr T hT X
  cases hv
  rw [h0] at hz hk
  obtain ⟨t2, a1, b1⟩ := kk r M T'.heap (locs ++ L) hp hlv (by rw [e1]; exact hb)
    ⟨Nat.le_trans hS.1 (by rw [e1]; exact hz), fun q h1 h2 => by rw [e1, hk q (Nat.lt_of_lt_of_le h1 hS.1) h2]; exact hS.2.1 q h1 h2, fun q hq => by
      rcases List.mem_append.mp hq with h | h
      · exact hS.2.2 q h
      · exact hL q h⟩ T' rfl X'
  exact ⟨t2, st t2 a1, b1⟩
theorem zz_pshm (ad : zR → Nat) (r : Option zV) (rest : List zV) : (zz_psh r rest).map (zz_cv ad) = (r.map (zz_cv ad)).toList ++ rest.map (zz_cv ad) := by cases r <;> rfl
theorem zz_pshl (r : Option zV) (rest : List zV) (h : ∀ v ∈ r, zz_lv G v) (h2 : ∀ v ∈ rest, zz_lv G v) : ∀ v ∈ zz_psh r rest, zz_lv G v := by
  cases r with
  | none => exact h2
  | some v => exact zz_lvc (h v rfl) h2
/-- a static method -/
theorem zz_cS0 (ok : zz_ok G Z md) {pc idx n nn : Nat} {i : Int32} {ls : zL} {st as rest : List zV} {M : zM} (he : zz_ent (zz_code md) pc = some (44, i, idx, 1, nn)) (hl0 : Cond.methodLink md.2.2.2.2.1 idx md2.1 ∈ gw_tbl) (hc : zz_cal md2 n true) (hro : zz_rok md md2 = true) (ht : zz_tk n st [] = some (as, rest)) (h8 : Nat.ble (zz_sum rest) 8 = true)
    (hw : zz_T G md2 as M (fun r M2 => zz_W G Z md post nn ls (zz_psh r rest) M2)) : zz_W G Z md post pc ls st M := by
  obtain ⟨hG, hx, hb, hr0, hml, hown, hts, hlk, hK, hmd⟩ := ok
  have hck := hmd _ (zz_ent_in he)
  intro hl1 hl2 H locs la hP hS hl
  simp [zz_cm] at hck
  obtain ⟨hn, hd⟩ := hck
  have hst := zz_tk_eq _ _ _ _ _ ht
  have hle := zz_tk_len _ _ _ _ _ ht
  simp only [List.reverse_nil, List.nil_append, List.length_nil, Nat.add_zero] at hst hle
  subst hst
  have hlas : ∀ v ∈ as, zz_lv G v := fun v hv => hl2 v (List.mem_append_left _ (List.mem_reverse.mpr hv))
  have hlre : ∀ v ∈ rest, zz_lv G v := fun v hv => hl2 v (List.mem_append_right _ hv)
  have hM := hw hlas
  simp only [zz_rok, Bool.and_eq_true, Nat.ble_eq] at hro
  have hini : (Cond.initialized md2.1.cls).before Z.2.2.2.2.1 Z.2.2.1 = true := hts _ hc.2.1
  have cb := callB_of (R := zz_rm md) (rm := zz_rm md2) (mc := 0) (ms := 0) n hts (gw_G hc.1) rfl rfl rfl hini (hts _ hl0) hc.2.2.1 hro
  refine zz_aft (va_runS (As := as.map (zz_cv G.2.2.1)) (rest := rest.map (zz_cv G.2.2.1)) ⟨hx, hb, hml, hown, hts⟩ hM ⟨cb, hts _ (hc.2.2.2.1 rfl)⟩ ⟨zz_blind G _ M, fun U hU hW => ⟨rfl, by rw [hU]; exact hP, zz_Kw hW hK⟩⟩ rfl (by simp [hle]) hl.1 (by simp) (lv_room (by rw [zz_sum_eq]; exact Nat.le_of_ble_eq_true h8)) hd ⟨Nat.le_refl _, Nat.le_refl _⟩) hS (fun r M1 H1 locs1 hpo hlv hP1 hS1 => ?_)
  have hnn : nn = pc + 3 := hn
  subst hnn
  rw [← zz_pshm]
  exact hpo hl1 (zz_pshl r rest hlv hlre) H1 locs1 la hP1 hS1 hl
/-- a static method of the nest's host -/
theorem zz_cN0 (ok : zz_ok G Z md) {pc idx n nn : Nat} {i : Int32} {ls : zL} {st as rest : List zV} {M : zM} (he : zz_ent (zz_code md) pc = some (44, i, idx, 2, nn)) (hl0 : ∀ U, zz_N U → va_Nw (.methodLinkNest md.2.2.2.2.1 idx md2.1 "LeaseCluster") U) (hc : zz_cal md2 n true) (hro : zz_rok md md2 = true) (ht : zz_tk n st [] = some (as, rest)) (h8 : Nat.ble (zz_sum rest) 8 = true)
    (hw : zz_T G md2 as M (fun r M2 => zz_W G Z md post nn ls (zz_psh r rest) M2)) : zz_W G Z md post pc ls st M := by
  obtain ⟨hG, hx, hb, hr0, hml, hown, hts, hlk, hK, hmd⟩ := ok
  have hck := hmd _ (zz_ent_in he)
  intro hl1 hl2 H locs la hP hS hl
  simp [zz_cm] at hck
  obtain ⟨hn, hd⟩ := hck
  have hst := zz_tk_eq _ _ _ _ _ ht
  have hle := zz_tk_len _ _ _ _ _ ht
  simp only [List.reverse_nil, List.nil_append, List.length_nil, Nat.add_zero] at hst hle
  subst hst
  have hlas : ∀ v ∈ as, zz_lv G v := fun v hv => hl2 v (List.mem_append_left _ (List.mem_reverse.mpr hv))
  have hlre : ∀ v ∈ rest, zz_lv G v := fun v hv => hl2 v (List.mem_append_right _ hv)
  have hM := hw hlas
  simp only [zz_rok, Bool.and_eq_true, Nat.ble_eq] at hro
  have hini : (Cond.initialized md2.1.cls).before Z.2.2.2.2.1 Z.2.2.1 = true := hts _ hc.2.1
  have cb := va_cnB (R := zz_rm md) (rm := zz_rm md2) (mc := 0) (ms := 0) n hts (gw_G hc.1) rfl rfl rfl (hl0 _ hK.2) hini hc.2.2.1 hro
  refine zz_aft (va_runSN (As := as.map (zz_cv G.2.2.1)) (rest := rest.map (zz_cv G.2.2.1)) ⟨hx, hb, hml, hown, hts⟩ hM ⟨cb, hts _ (hc.2.2.2.1 rfl), trivial⟩ ⟨zz_blind G _ M, fun U hU hW => ⟨rfl, by rw [hU]; exact hP, zz_Kw hW hK⟩⟩ rfl (by simp [hle]) hl.1 (by simp) (lv_room (by rw [zz_sum_eq]; exact Nat.le_of_ble_eq_true h8)) hd ⟨Nat.le_refl _, Nat.le_refl _⟩) hS (fun r M1 H1 locs1 hpo hlv hP1 hS1 => ?_)
  have hnn : nn = pc + 3 := hn
  subst hnn
  rw [← zz_pshm]
  exact hpo hl1 (zz_pshl r rest hlv hlre) H1 locs1 la hP1 hS1 hl
def zz_cn : Nat → String
  | 0 => RX0
  | 1 => RX1
  | 2 => RX2
  | 3 => RX3
  | 4 => RX4
  | 5 => RX5
  | _ => RX6
def zz_ci (r : zR) : Option Nat := match zz_sh r with
  | .inl (ci, _) => some ci
  | .inr _ => none
/-- a method of an object -/
theorem zz_cV0 (ok : zz_ok G Z md) {pc idx n nn ci : Nat} {i : Int32} {ls : zL} {st as rest : List zV} {M : zM} {r : zR} (he : zz_ent (zz_code md) pc = some (44, i, idx, 0, nn)) (hl0 : Cond.methodLink md.2.2.2.2.1 idx md2.1 ∈ gw_tbl) (hc : zz_cal md2 n false) (hro : zz_rok md md2 = true) (ht : zz_tk (n + 1) st [] = some (.inr (.inr r) :: as, rest)) (hci : zz_ci r = some ci) (hcn : md2.1.cls = zz_cn ci) (h8 : Nat.ble (zz_sum rest) 8 = true)
    (hw : zz_T G md2 (.inr (.inr r) :: as) M (fun r M2 => zz_W G Z md post nn ls (zz_psh r rest) M2)) : zz_W G Z md post pc ls st M := by
  obtain ⟨hG, hx, hb, hr0, hml, hown, hts, hlk, hK, hmd⟩ := ok
  have hck := hmd _ (zz_ent_in he)
  intro hl1 hl2 H locs la hP hS hl
  simp [zz_cm] at hck
  obtain ⟨hn, hd⟩ := hck
  have hst := zz_tk_eq _ _ _ _ _ ht
  have hle := zz_tk_len _ _ _ _ _ ht
  simp only [List.reverse_nil, List.nil_append, List.length_nil, Nat.add_zero, List.length_cons, Nat.add_right_cancel_iff] at hst hle
  subst hst
  have hlas : ∀ v ∈ (.inr (.inr r) :: as : List zV), zz_lv G v := fun v hv => hl2 v (List.mem_append_left _ (List.mem_reverse.mpr hv))
  have hlre : ∀ v ∈ rest, zz_lv G v := fun v hv => hl2 v (List.mem_append_right _ hv)
  have hM := hw hlas
  simp only [zz_rok, Bool.and_eq_true, Nat.ble_eq] at hro
  have hini : (Cond.initialized md2.1.cls).before Z.2.2.2.2.1 Z.2.2.1 = true := hts _ hc.2.1
  have cb := callB_of (R := zz_rm md) (rm := zz_rm md2) (mc := 0) (ms := 0) n hts (gw_G hc.1) rfl rfl rfl hini (hts _ hl0) hc.2.2.1 hro
  have hrL : r ∈ G.2.2.2.2 := zz_lvh hlas
  have hrecv : ∃ cellB : Cell, H[G.2.2.1 r]? = some cellB ∧ cellB.vm.isStatics = false ∧ Z.2.2.1.vm.findClass md2.1.cls = some cellB.cls := by
    obtain ⟨q, hq, hwq⟩ := zz_cell M hrL
    unfold zz_ci at hci
    split at hci
    · next c0 fs hs =>
      cases hci
      rw [zz_ce_o hs] at hwq
      obtain ⟨qc, hqc, -⟩ := zz_sh_cl hs
      have h9 := va_recv hK.1 hP hqc hwq
      have hcc : qc.1 = zz_cn ci := by
        match ci, hqc with
        | 0, h => cases h; rfl
        | 1, h => cases h; rfl
        | 2, h => cases h; rfl
        | 3, h => cases h; rfl
        | 4, h => cases h; rfl
        | 5, h => cases h; rfl
        | 6, h => cases h; rfl
        | n + 7, h => simp [zz_cl] at h
      rw [hcn, ← hcc]
      exact h9
    · cases hci
  refine zz_aft (va_runV (b := G.2.2.1 r) (As := as.map (zz_cv G.2.2.1)) (rest := rest.map (zz_cv G.2.2.1)) ⟨hx, hb, hml, hown, hts⟩ hM ⟨cb, hts _ (hc.2.2.2.2 rfl).1, hts _ (hc.2.2.2.2 rfl).2⟩ ⟨zz_blind G _ M, hrecv, fun U hU hW => ⟨rfl, by rw [hU]; exact hP, zz_Kw hW hK⟩⟩ rfl (by simp [hle]) hl.1 (by simp [zz_cv]) (lv_room (by rw [zz_sum_eq]; exact Nat.le_of_ble_eq_true h8)) hd ⟨Nat.le_refl _, Nat.le_refl _⟩) hS (fun r M1 H1 locs1 hpo hlv hP1 hS1 => ?_)
  have hnn : nn = pc + 3 := hn
  subst hnn
  rw [← zz_pshm]
  exact hpo hl1 (zz_pshl r rest hlv hlre) H1 locs1 la hP1 hS1 hl
theorem zz_args_map (ad : zR → Nat) : ∀ (as : List zV) (k : Nat), (zz_args k as).map (fun q => (q.1, zz_cv ad q.2)) = lv_args k (as.map (zz_cv ad))
  | [], _ => rfl
  | v :: t, k => by
    rw [zz_args, List.map_cons, List.map_cons, lv_args, zz_args_map ad t, zz_cat_eq]
    rcases v with v | v | v <;> rfl
theorem zz_sl_len (ad : zR → Nat) : ∀ (as : List zV), (lg_sl (as.map (zz_cv ad))).length = zz_sum as
  | [] => rfl
  | v :: t => by
    have := zz_sl_len ad t
    simp only [lg_sl] at this ⊢
    rw [List.map_cons, List.flatMap_cons, List.length_append, this, zz_sum]
    rcases v with v | v | v <;> rfl
theorem zz_args_lv : ∀ (as : List zV) (k : Nat), (∀ v ∈ as, zz_lv G v) → ∀ q ∈ zz_args k as, zz_lv G q.2
  | [], _, _, q, h => by cases h
  | v :: t, k, hv, q, h => by
    rw [zz_args] at h
    rcases List.mem_cons.mp h with h | h
    · subst h; exact zz_lvh hv
    · exact zz_args_lv t _ (zz_lvt hv) q h
/-- a method's contract out of its walk -/
theorem zz_in {as : List zV} {M : zM} (hG : zz_go G) (hmd : zz_md md) (hy : plainName md.1.cls = true) (hown : md.2.2.2.2.1 = md.1.cls) (hlen : Nat.ble (zz_sum as) md.2.2.1 = true) (body : ∀ Z : zC, zz_ok G Z md → zz_W G Z md post 0 (zz_args 0 as) [] M) : zz_T G md as M post := by
  intro hlas
  refine Met.ofW (cc := md.2.1) (maxL := md.2.2.1) (ret := md.2.2.2.1) hy rfl ?_
  intro p e s m args below meth c s₁ B hml hv
  obtain ⟨rfl, hP, hK⟩ := hv
  have hts := atoms_spec (ws := zz_ws md) B.pre
  have hown2 : s.vm.findClass md.1.cls = some m.cls := findClass_of_methodNamed B.named
  have hb := body (p, e, s, m, (as.map (zz_cv G.2.2.1)).toArray, below, meth, c) ⟨hG, B.exec, B.bytes, B.returns, hml, by rw [hown]; exact hown2, fun w hw => hts w (List.mem_cons_of_mem _ hw), B.notSynchronized, hK, hmd⟩ (zz_args_lv as 0 hlas) (fun v hv => by cases hv)
  have hl := lv_entry (as.map (zz_cv G.2.2.1)) (n := md.2.2.1) (by rw [zz_sl_len]; exact Nat.le_of_ble_eq_true hlen)
  rw [lg_entry_eq]
  exact hb s.heap [] _ hP va_S.rf (by rw [zz_args_map]; exact hl)
end ZC
