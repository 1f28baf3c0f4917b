def R_law : String := "LeaseClusterLaw"
def lw_P (b : Addr) (xs : List Int32) (args : Array Value) (s : State) : Prop := args = #[.ref b] ∧ s.IntsAt b xs ∧ xs.length ≤ 2049 ∧ (Jvm.Cond.and given_1 narrow_1).before args s = true
def lw_Q (_ : Array Value) (s : State) (o : Outcome) (t : State) : Prop := o = .returned (some (.int 1)) ∧ Framed s o t [] 600000 7302250
def lw_Z (below : List Frame) (a : Array Value) (s : State) : State → Prop := fun t => ∃ o, t.status = .running ∧ Ended t below o ∧ lw_Q a s o t
/-- the law's own end, with 1 on the stack, nothing written that was there before, its room as the claim has it -/
theorem lw_ret {p : Program} {l : Launch} {e : Env} {s : State} {m : MethodId} {below : List Frame} {meth : Method} {c : Code} {b : Nat} (hx : p.tables.exec = Jvm.exec) (hb : c.code = code) (hr : meth.sig.returnType = ret) (hlocks : meth.locks = false) {pc : Nat} {H : Heap} {ls : Array Slot} (hdg : decode code pc = .ok (.ireturn, 1)) : W p l e room_1 s m #[Value.ref b] below meth c H [] 600000 7302250 (lw_Z below #[Value.ref b] s) (F0 m pc ls [.int 1]) := by
  intro T hT X
  obtain ⟨fs, hret, hrun, hended, hW, hframe⟩ := X.leave (v := some (.int 1)) (hlocks := hlocks) (fun h => by rw [hr] at h; cases h)
  have hmeth' : T.vm.method? m = some meth := X.method'
  refine ⟨T.setFrames fs, ?_, .returned (some (.int 1)), hrun, hended, rfl, ⟨_, rfl⟩, hW, hframe⟩
  jvm_step X.here [X.here.top, hx, hb, hdg, hmeth', hr, ret, narrow_b1]
  (try refine ⟨rfl, ?_⟩); (try refine ⟨rfl, ?_⟩)
  first | (intro acts; rw [hret _ acts rfl rfl rfl]) | rw [hret _ _ rfl rfl rfl]
  exact Steps.refl _
/-- what holds at the law's entry: the machine, the code, the tables' words (any of lw_tbl by 'hts w (by decide +kernel)'), the script of L ints xs at the cell b, what the Statement gives of the start (any of its parts by flat_of_before) -/
def lw_At (p : Program) (s : State) (m : MethodId) (meth : Method) (c : Code) (b L : Nat) (xs : Nat → Int32) : Prop :=
  p.tables.exec = Jvm.exec ∧ c.code = code ∧ meth.sig.returnType = ret ∧ c.maxLocals = 4 ∧ s.vm.findClass R_law = some m.cls ∧ (∀ w ∈ lw_tbl, w.before #[Value.ref b] s = true) ∧ va_X b L xs s s.heap ∧ b < s.heap.size ∧ meth.locks = false ∧ (Jvm.Cond.and given_1 narrow_1).before #[Value.ref b] s = true
/-! the law's own rows -/
abbrev lC : Type := Program × Launch × Env × State × MethodId × List Frame × Method × Code × Nat
def l_s (Z : lC) : State := Z.2.2.2.1
def lWw (Z : lC) (H : Heap) (locs : List Loc) (k n pc : Nat) (la : Array Slot) (st : List Value) : Prop :=
  W Z.1 Z.2.1 Z.2.2.1 room_1 (l_s Z) Z.2.2.2.2.1 #[Value.ref Z.2.2.2.2.2.2.2.2] Z.2.2.2.2.2.1 Z.2.2.2.2.2.2.1 Z.2.2.2.2.2.2.2.1 H locs k n (lw_Z Z.2.2.2.2.2.1 #[Value.ref Z.2.2.2.2.2.2.2.2] (l_s Z)) (F0 Z.2.2.2.2.1 pc la st)
def l_at (Z : lC) (L : Nat) (xs : Nat → Int32) : Prop := lw_At Z.1 (l_s Z) Z.2.2.2.2.1 Z.2.2.2.2.2.2.1 Z.2.2.2.2.2.2.2.1 Z.2.2.2.2.2.2.2.2 L xs
def l_ok (Z : lC) (G : zG) (L : Nat) (xs : Nat → Int32) : Prop := l_at Z L xs ∧ L ≤ 2049 ∧ zz_go G ∧ zz_K G (l_s Z) ∧ (∀ r ∈ G.2.2.2.2, (l_s Z).heap.size ≤ G.2.2.1 r) ∧ G.1 = Z.2.1
def lW (Z : lC) (G : zG) (pc : Nat) (ls : List (Nat × Value)) (st : List Value) (M : zM) : Prop :=
  ∀ (H : Heap) (locs : List Loc) (la : Array Slot), va_P G.2.1 zz_cl (zz_w G M) H → va_S (fun q => (l_s Z).heap.size ≤ q) (l_s Z).heap H locs → lv_has la 4 ls → lWw Z H locs 144 12392 pc la st
theorem gw_lw {w : Cond} (h : w ∈ gw_tbl) : w ∈ lw_tbl := (List.mem_filter.mp h).1
section LR
variable {Z : lC} {G : zG} {L : Nat} {xs : Nat → Int32} {pc : Nat} {ls ls' : List (Nat × Value)} {st : List Value} {M : zM}
theorem l_al (ok : l_ok Z G L xs) {i : Fin 4} {a j : Nat} (hd : decode code pc = .ok (.aload_n i, 1)) (hj : ls[j]? = some (i.val, .ref a)) (kk : lW Z G (pc + 1) ls (.ref a :: st) M) : lW Z G pc ls st M :=
  fun H locs la hP hS hl => lv_aload_n ok.1.1 ok.1.2.1 hd rfl (lv_at hl j hj) (kk H locs la hP hS hl)
theorem l_il (ok : l_ok Z G L xs) {i : Fin 4} {j : Nat} {x : Int32} (hd : decode code pc = .ok (.iload_n i, 1)) (hj : ls[j]? = some (i.val, .int x)) (kk : lW Z G (pc + 1) ls (.int x :: st) M) : lW Z G pc ls st M :=
  fun H locs la hP hS hl => lv_iload_n ok.1.1 ok.1.2.1 hd rfl (lv_at hl j hj) (kk H locs la hP hS hl)
theorem l_ic (ok : l_ok Z G L xs) {x : Int} {v : Int32} (hd : decode code pc = .ok (.iconst x, 1)) (hv : Int32.ofInt x = v) (kk : lW Z G (pc + 1) ls (.int v :: st) M) : lW Z G pc ls st M :=
  fun H locs la hP hS hl => lv_iconst ok.1.1 ok.1.2.1 hd hv (kk H locs la hP hS hl)
theorem l_bi (ok : l_ok Z G L xs) {x : Int} {v : Int32} (hd : decode code pc = .ok (.bipush x, 2)) (hv : (Int8.ofInt x).toInt32 = v) (kk : lW Z G (pc + 2) ls (.int v :: st) M) : lW Z G pc ls st M :=
  fun H locs la hP hS hl => lv_bipush ok.1.1 ok.1.2.1 hd hv (kk H locs la hP hS hl)
theorem l_add (ok : l_ok Z G L xs) {x y : Int32} (hd : decode code pc = .ok (.iadd, 1)) (kk : lW Z G (pc + 1) ls (.int (x + y) :: st) M) : lW Z G pc ls (.int y :: .int x :: st) M :=
  fun H locs la hP hS hl => lv_iadd ok.1.1 ok.1.2.1 hd (kk H locs la hP hS hl)
theorem l_sub (ok : l_ok Z G L xs) {x y : Int32} (hd : decode code pc = .ok (.isub, 1)) (kk : lW Z G (pc + 1) ls (.int (x - y) :: st) M) : lW Z G pc ls (.int y :: .int x :: st) M :=
  fun H locs la hP hS hl => lv_isub ok.1.1 ok.1.2.1 hd (kk H locs la hP hS hl)
theorem l_and (ok : l_ok Z G L xs) {x y : Int32} (hd : decode code pc = .ok (.iand, 1)) (kk : lW Z G (pc + 1) ls (.int (x &&& y) :: st) M) : lW Z G pc ls (.int y :: .int x :: st) M :=
  fun H locs la hP hS hl => lv_iand ok.1.1 ok.1.2.1 hd (kk H locs la hP hS hl)
theorem l_sld (ok : l_ok Z G L xs) {x : Int32} {i : Nat} (hi : x = nI i) (hiL : i < L) (hd : decode code pc = .ok (.iaload, 1)) (kk : lW Z G (pc + 1) ls (.int (xs i) :: st) M) : lW Z G pc ls (.int x :: .ref Z.2.2.2.2.2.2.2.2 :: st) M := by
  intro H locs la hP hS hl
  have hL := ok.2.1
  obtain ⟨hx, hb, hr, hml, hown, hts, hX, hbl, hlocks, hgv⟩ := ok.1
  subst hi
  refine va_sld hx hb hX hbl (Nat.not_le.mpr hbl) hS (vp_in_nI hiL (by omega)) hd ?_
  rw [nI_clamp (by omega)]
  exact kk H locs la hP hS hl
theorem l_len (ok : l_ok Z G L xs) (hd : decode code pc = .ok (.arraylength, 1)) (kk : lW Z G (pc + 1) ls (.int (nI L) :: st) M) : lW Z G pc ls (.ref Z.2.2.2.2.2.2.2.2 :: st) M := by
  intro H locs la hP hS hl
  obtain ⟨hx, hb, hr, hml, hown, hts, hX, hbl, hlocks, hgv⟩ := ok.1
  exact va_slen hx hb hX hbl (Nat.not_le.mpr hbl) hS hd (kk H locs la hP hS hl)
theorem l_arg (ok : l_ok Z G L xs) {i j a : Nat} {x : Int} (hd : decode code pc = .ok (.aload_n 0, 1) ∧ decode code (pc + 1) = .ok (.iload_n 3, 1) ∧ decode code (pc + 2) = .ok (.iconst x, 1) ∧ decode code (pc + 3) = .ok (.iadd, 1) ∧ decode code (pc + 4) = .ok (.iaload, 1)) (hx : Int32.ofInt x = nI a) (h0 : ls[j]? = some (0, .ref Z.2.2.2.2.2.2.2.2)) {j2 : Nat} (h3 : ls[j2]? = some (3, .int (nI i))) (hiL : i + a < L) (kk : lW Z G (pc + 5) ls (.int (xs (i + a)) :: st) M) : lW Z G pc ls st M :=
  l_al ok hd.1 h0 (l_il ok hd.2.1 h3 (l_ic ok hd.2.2.1 hx (l_add ok hd.2.2.2.1 (l_sld ok (nI_add i a) hiL hd.2.2.2.2 kk))))
theorem l_go (ok : l_ok Z G L xs) {off : Int} {t : Nat} (hd : decode code pc = .ok (.goto off, 3)) (ht : (pc : Int) + off = (t : Int)) (kk : lW Z G t ls st M) : lW Z G pc ls st M :=
  fun H locs la hP hS hl => lv_goto ok.1.1 ok.1.2.1 hd ht (kk H locs la hP hS hl)
theorem l_gt (ok : l_ok Z G L xs) {off : Int} {t : Nat} {x y : Int32} (hd : decode code pc = .ok (.if_icmp .gt off, 3)) (ht : (pc : Int) + off = (t : Int)) (k1 : y < x → lW Z G t ls st M) (k2 : ¬ y < x → lW Z G (pc + 3) ls st M) : lW Z G pc ls (.int y :: .int x :: st) M :=
  fun H locs la hP hS hl => lv_icmp_gt ok.1.1 ok.1.2.1 hd ht (fun c => k1 c H locs la hP hS hl) (fun c => k2 c H locs la hP hS hl)
theorem l_eq (ok : l_ok Z G L xs) {off : Int} {t : Nat} {x y : Int32} (hd : decode code pc = .ok (.if_icmp .eq off, 3)) (ht : (pc : Int) + off = (t : Int)) (h : x = y) (kk : lW Z G t ls st M) : lW Z G pc ls (.int y :: .int x :: st) M :=
  fun H locs la hP hS hl => lv_icmp_eq ok.1.1 ok.1.2.1 hd ht (fun _ => kk H locs la hP hS hl) (fun c => absurd h c)
theorem l_if0 (ok : l_ok Z G L xs) {off : Int} {t : Nat} {x : Int32} (hd : decode code pc = .ok (.ifCond .eq off, 3)) (ht : (pc : Int) + off = (t : Int)) (k1 : x = 0 → lW Z G t ls st M) (k2 : ¬ x = 0 → lW Z G (pc + 3) ls st M) : lW Z G pc ls (.int x :: st) M :=
  fun H locs la hP hS hl => lv_if_eq ok.1.1 ok.1.2.1 hd ht (fun c => k1 c H locs la hP hS hl) (fun c => k2 c H locs la hP hS hl)
theorem l_inc (ok : l_ok Z G L xs) {i j : Nat} {x v : Int32} {d : Int} (hd : decode code pc = .ok (.iinc i d, 3)) (hj : ls[j]? = some (i, .int x)) (hv : x + Int32.ofInt d = v) (hn : i < 4) (hl' : (i, Value.int v) :: ls.filter (fun q => !(q.1 == i) && !(q.1 + 1 == i && q.2.category == 2)) = ls') (kk : lW Z G (pc + 3) ls' st M) : lW Z G pc ls st M :=
  fun H locs la hP hS hl => lv_iinc ok.1.1 ok.1.2.1 hd hl hj hv hn hl' (fun la hl => kk H locs la hP hS hl)
theorem l_ls (js : List Nat) (h : lv_pick ls js = ls') (kk : lW Z G pc ls' st M) : lW Z G pc ls st M :=
  fun H locs la hP hS hl => kk H locs la hP hS (lv_sub hl js h)
theorem l_end (ok : l_ok Z G L xs) (hd : decode code pc = .ok (.iconst 1, 1)) (hd2 : decode code (pc + 1) = .ok (.ireturn, 1)) : lW Z G pc ls [] M := by
  intro H locs la hP hS hl
  obtain ⟨hx, hb, hr, hml, hown, hts, hX, hbl, hlocks, hgv⟩ := ok.1
  refine lv_iconst (v := 1) hx hb hd (by decide) ?_
  refine va_forget (fun q hq => hS.2.2 q hq) ?_
  refine W.widen (k := 600000) (n := 7302250) (Nat.le_of_ble_eq_true rfl) (Nat.le_of_ble_eq_true rfl) ?_
  exact lw_ret hx hb hr hlocks hd2
theorem l_tsw (ok : l_ok Z G L xs) {len : Nat} {a : Int32} {df lo hi : Int} {offs : Array Int} (hd : decode code pc = .ok (.tableswitch df lo hi offs, len)) (cs : List (Int32 × Nat)) (dt : Nat) (hc : zz_tok pc df lo hi offs cs dt = true) (k : zz_sw a (fun t => lW Z G t ls st M) cs dt) : lW Z G pc ls (.int a :: st) M := by
  obtain ⟨hx, hb, hr, hml, hown, hts, hX, hbl, hlocks, hgv⟩ := ok.1
  intro H locs la hP hS hl
  simp only [zz_tok, Bool.and_eq_true, decide_eq_true_eq, List.all_eq_true, List.mem_range] at hc
  obtain ⟨h1, h2, h3⟩ := hc
  have h4 : ∀ (j : Nat) (q : Int32 × Nat), cs[j]? = some q → q.1.toInt = lo + (j : Int) ∧ offs[j]? = some ((q.2 : Int) - (pc : Int)) := by
    intro j q hq
    have hj : j < cs.length := (List.getElem?_eq_some_iff.mp hq).1
    have h5 := h3 j hj
    rw [hq] at h5
    cases ho : offs[j]? with
    | none => rw [ho] at h5; simp at h5
    | some o =>
      rw [ho] at h5
      simp only [Bool.and_eq_true, decide_eq_true_eq] at h5
      exact ⟨h5.1, by rw [h5.2]⟩
  by_cases ho : a.toInt < lo ∨ hi < a.toInt
  · refine lv_tableOut hx hb hd ho (tgt := dt) (by omega) (zz_sw_out (fun q hq => ?_) k H locs la hP hS hl)
    obtain ⟨j, hj⟩ := List.getElem?_of_mem hq
    have hjl : j < cs.length := (List.getElem?_eq_some_iff.mp hj).1
    have h6 := (h4 j q hj).1
    intro e
    rw [e] at ho
    omega
  · have hj0 : (a.toInt - lo).toNat < cs.length := by omega
    obtain ⟨q, hq⟩ : ∃ q, cs[(a.toInt - lo).toNat]? = some q := ⟨_, List.getElem?_eq_getElem hj0⟩
    obtain ⟨h6, h7⟩ := h4 _ q hq
    have hqa : q.1 = a := Int32.toInt_inj.mp (by omega)
    refine lv_tableIn hx hb hd (by omega) (by omega) h7 (tgt := q.2) (by omega) (zz_sw_in (j := (a.toInt - lo).toNat) (t := q.2) (by rw [hq, ← hqa]) (fun i hi q' hq' e => ?_) k H locs la hP hS hl)
    have h8 := (h4 i q' hq').1
    rw [← e] at h8
    omega
def l_rk (md2 : zD) : Bool := Nat.ble (md2.2.2.2.2.2.1.1 + 1) 10 && Nat.ble (8 + (md2.2.2.1 + 11) + md2.2.2.2.2.2.1.2) 376
theorem l_call (ok : l_ok Z G L xs) {idx n ci : Nat} {md2 : zD} {r : zR} {as : List zV} {rest : List Value} (hd : decode code pc = .ok (.invokevirtual idx, 3)) (hl0 : Cond.methodLink R_law idx md2.1 ∈ gw_tbl) (hc : zz_cal md2 n false) (hro : l_rk md2 = true) (hlen : as.length = n) (hr : r ∈ G.2.2.2.2) (hci : zz_ci r = some ci) (hcn : md2.1.cls = zz_cn ci) (h8 : (rest.map fun v => v.category).sum ≤ 8) (hlv : ∀ v ∈ as, zz_lv G v)
    (hw : zz_T G md2 (.inr (.inr r) :: as) M (fun r M2 => lW Z G (pc + 3) ls ((r.map (zz_cv G.2.2.1)).toList ++ rest) M2)) : lW Z G pc ls ((as.map (zz_cv G.2.2.1)).reverse ++ .ref (G.2.2.1 r) :: rest) M := by
  obtain ⟨hx, hb, hrt, hml, hown, hts, hX, hbl, hlocks, hgv⟩ := ok.1
  obtain ⟨_, hL, hG, hK, hnew, hl1⟩ := ok
  intro H locs la hP hS hl
  have hM := hw (fun v hv => (List.mem_cons.mp hv).elim (fun e => e ▸ hr) (fun h => hlv v h))
  simp only [l_rk, Bool.and_eq_true, Nat.ble_eq] at hro
  have hts2 : ∀ w ∈ gw_tbl, w.before #[Value.ref Z.2.2.2.2.2.2.2.2] (l_s Z) = true := fun w hw => hts w (gw_lw hw)
  have hini : (Cond.initialized md2.1.cls).before #[Value.ref Z.2.2.2.2.2.2.2.2] (l_s Z) = true := hts2 _ hc.2.1
  have cb := callB_of (R := room_1) (rm := zz_rm md2) (mc := 0) (ms := 0) n hts2 (gw_G hc.1) rfl rfl rfl hini (hts2 _ hl0) hc.2.2.1 hro
  have hrecv : ∃ cellB : Cell, H[G.2.2.1 r]? = some cellB ∧ cellB.vm.isStatics = false ∧ (l_s Z).vm.findClass md2.1.cls = some cellB.cls := by
    obtain ⟨q, hq, hwq⟩ := zz_cell M hr
    unfold zz_ci at hci
    split at hci
    · next c0 fs hs =>
      cases hci
      rw [zz_ce_o hs] at hwq
      obtain ⟨qc, hqc, -⟩ := zz_sh_cl hs
      have h9 := va_recv hK.1 hP hqc hwq
      have hcc : qc.1 = zz_cn ci := by
        match ci, hqc with
        | 0, h => cases h; rfl
        | 1, h => cases h; rfl
        | 2, h => cases h; rfl
        | 3, h => cases h; rfl
        | 4, h => cases h; rfl
        | 5, h => cases h; rfl
        | 6, h => cases h; rfl
        | n + 7, h => simp [zz_cl] at h
      rw [hcn, ← hcc]
      exact h9
    · cases hci
  rw [hl1] at hM
  have run := va_runV (R := room_1) (b := G.2.2.1 r) (As := as.map (zz_cv G.2.2.1)) (rest := rest) (cells := 144) (slots := 12392) (locs := locs) (e := Z.2.2.1) (meth := Z.2.2.2.2.2.2.1) (below := Z.2.2.2.2.2.1) (g := F0 Z.2.2.2.2.1 pc la ((as.map (zz_cv G.2.2.1)).reverse ++ .ref (G.2.2.1 r) :: rest)) ⟨hx, hb, hml, hown, hts2⟩ hM ⟨cb, hts2 _ (hc.2.2.2.2 rfl).1, hts2 _ (hc.2.2.2.2 rfl).2⟩ ⟨zz_blind G _ M, hrecv, fun U hU hW => ⟨rfl, by rw [hU]; exact hP, zz_Kw hW hK⟩⟩ rfl (by simp [hlen]) hl.1 rfl (lv_room h8) hd ⟨Nat.le_of_ble_eq_true rfl, Nat.le_of_ble_eq_true rfl⟩
  intro T hT X
  obtain ⟨v, st₀, t, T', LL, h0, X', hLL, e1, e2, ⟨⟨rv, M2, hv, hp, hlv2, hb2⟩, hz, hk⟩, stp⟩ := run T hT X
  cases hv
  rw [h0] at hz hk
  have inA : ∀ q, zz_A G q → (l_s Z).heap.size ≤ q := fun q ⟨r, hr, e⟩ => e ▸ hnew r hr
  obtain ⟨t2, a1, b1⟩ := hp T'.heap (locs ++ LL) la (by rw [e1]; exact hb2)
    ⟨Nat.le_trans hS.1 (by rw [e1]; exact hz), fun q h1 h2 => by rw [e1, hk q (Nat.lt_of_lt_of_le h1 hS.1) (fun z => h2 (inA q z))]; exact hS.2.1 q h1 h2, fun q hq => by
      rcases List.mem_append.mp hq with h | h
      · exact hS.2.2 q h
      · exact inA _ (hLL q h)⟩ hl T' rfl X'
  exact ⟨t2, stp t2 a1, b1⟩
theorem l_pi {v : Int32} {rest : List Value} (kk : lW Z G pc ls (.int v :: rest) M) : lW Z G pc ls (((some (.inl v : zV)).map (zz_cv G.2.2.1)).toList ++ rest) M := kk
theorem l_pl {v : Int64} {rest : List Value} (kk : lW Z G pc ls (.long v :: rest) M) : lW Z G pc ls (((some (.inr (.inl v) : zV)).map (zz_cv G.2.2.1)).toList ++ rest) M := kk
theorem l_bool (ok : l_ok Z G L xs) {x : Int32} (d0 : decode code pc = .ok (.ifCond .eq 7, 3)) (d1 : decode code (pc + 3) = .ok (.iconst 1, 1)) (d2 : decode code (pc + 4) = .ok (.goto 4, 3)) (d3 : decode code (pc + 7) = .ok (.iconst 0, 1)) (kk : lW Z G (pc + 8) ls (.int (if x = 0 then 0 else 1) :: st) M) : lW Z G pc ls (.int x :: st) M := by
  refine l_if0 ok (t := pc + 7) d0 (by omega) (fun c => ?_) (fun c => ?_)
  · rw [if_pos c] at kk
    exact l_ic ok d3 (by decide) kk
  · rw [if_neg c] at kk
    exact l_ic ok d1 (by decide) (l_go ok (t := pc + 8) d2 (by omega) kk)
theorem l_lcmp (ok : l_ok Z G L xs) {off : Int} {t : Nat} {x y : Int64} (d0 : decode code pc = .ok (.lcmp, 1)) (d1 : decode code (pc + 1) = .ok (.ifCond .eq off, 3)) (ht : ((pc + 1 : Nat) : Int) + off = (t : Int)) (h : x = y) (kk : lW Z G t ls st M) : lW Z G pc ls (.long y :: .long x :: st) M := by
  intro H locs la hP hS hl
  subst h
  refine W.lcmp ok.1.1 ok.1.2.1 d0 ?_
  exact lv_if_eq ok.1.1 ok.1.2.1 d1 ht (fun c => kk H locs la hP hS hl) (fun c => absurd ((lg_cmp_eq x x).mpr rfl) c)
def lsL (Z : lC) (G : zG) (i : Nat) : List (Nat × Value) := [(3, .int (nI i)), (0, .ref Z.2.2.2.2.2.2.2.2), (1, .ref (G.2.2.1 (5, 0, 0))), (2, .ref (G.2.2.1 (6, 0, 0)))]
theorem l_lv : ∀ (as : List Int32) v, v ∈ as.map (fun x => (.inl x : zV)) → zz_lv G v := fun as v h => by
  obtain ⟨x, -, rfl⟩ := List.mem_map.mp h
  trivial
end LR
