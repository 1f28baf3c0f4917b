abbrev S6 : Type := Nat × Nat × Nat × Nat × Nat × Nat
def SV (cA : Nat → ClassId) (l : List S6) : va_W := l.flatMap (fun x => serverC cA x.1 x.2.1 x.2.2.1 x.2.2.2.1 x.2.2.2.2.1 x.2.2.2.2.2)
def svf (l : List S6) : Nat → Option Nat := fun j => (l[j]?).map (fun x => x.1)
def fil (i : Nat) (v : Int32) : Nat → Int32 := fun j => if j < i then v else 0
theorem fil_up (i : Nat) (v : Int32) : upd (fil i v) i v = fil (i + 1) v := by
  funext j
  unfold upd fil
  by_cases h : j = i
  · rw [if_pos h, if_pos (by omega)]
  · rw [if_neg h]
    by_cases h2 : j < i
    · rw [if_pos h2, if_pos (by omega)]
    · rw [if_neg h2, if_neg (by omega)]
theorem fil_0 (v : Int32) : (fun _ => 0) = fil 0 v := by
  funext j
  unfold fil
  rw [if_neg (Nat.not_lt_zero _)]
theorem svf_up (l : List S6) (x : S6) : va_up (svf l) l.length (some x.1) = svf (l ++ [x]) := by
  funext j
  unfold va_up svf
  by_cases h : j = l.length
  · rw [if_pos h, h]; simp
  · rw [if_neg h]
    by_cases h2 : j < l.length
    · rw [List.getElem?_append_left h2]
    · rw [List.getElem?_eq_none (by omega), List.getElem?_eq_none (by simp; omega)]
theorem SV_app (cA : Nat → ClassId) (l : List S6) (x : S6) : SV cA (l ++ [x]) = SV cA l ++ serverC cA x.1 x.2.1 x.2.2.1 x.2.2.2.1 x.2.2.2.2.1 x.2.2.2.2.2 := by
  unfold SV
  rw [List.flatMap_append]
  simp
theorem n_Pm {D : va_G} {cl : List vw_C} {ws : va_W} {H : Heap} : va_P D cl ws H ↔ ∀ q ∈ ws, va_at D cl q H :=
  ⟨fun h q hq => by obtain ⟨k, hk⟩ := List.getElem?_of_mem hq; exact h k q hk, fun h k q hk => h q (List.mem_of_getElem? hk)⟩
theorem n_Dmk {A : Nat → Prop} {x : Nat × va_E} {ws : va_W} (h : va_D A ws) (hA : A x.1) (hn : ∀ q ∈ ws, x.1 ≠ q.1) : va_D A (x :: ws) := by
  refine ⟨fun i j a b ha hb e => ?_, fun k q hk => ?_⟩
  · cases i with
    | zero =>
      cases ha
      cases j with
      | zero => rfl
      | succ j => exact absurd e (hn b (List.mem_of_getElem? (show ws[j]? = some b from hb)))
    | succ i =>
      cases j with
      | zero => cases hb; exact absurd e.symm (hn a (List.mem_of_getElem? (show ws[i]? = some a from ha)))
      | succ j => rw [h.1 i j a b ha hb e]
  · cases k with
    | zero => cases hk; exact hA
    | succ k => exact h.2 k q hk
theorem n_Dm {A : Nat → Prop} {x : Nat × va_E} {ws : va_W} (h : va_D A (x :: ws)) : va_D A ws ∧ A x.1 ∧ ∀ q ∈ ws, x.1 ≠ q.1 := by
  obtain ⟨a, b, c⟩ := n_Dc h
  exact ⟨a, b, fun q hq => by obtain ⟨k, hk⟩ := List.getElem?_of_mem hq; exact c k q hk⟩
theorem n_Dp {A : Nat → Prop} {ws ws' : va_W} (p : ws.Perm ws') : va_D A ws → va_D A ws' := by
  induction p with
  | nil => exact fun h => h
  | cons x p ih =>
    intro h
    obtain ⟨a, b, c⟩ := n_Dm h
    exact n_Dmk (ih a) b (fun q hq => c q (p.mem_iff.mpr hq))
  | swap x y l =>
    intro h
    obtain ⟨a, b, c⟩ := n_Dm h
    obtain ⟨a2, b2, c2⟩ := n_Dm a
    refine n_Dmk (n_Dmk a2 b (fun q hq => c q (List.mem_cons_of_mem _ hq))) b2 (fun q hq => ?_)
    rcases List.mem_cons.mp hq with e | e
    · subst e; exact fun z => c x List.mem_cons_self z.symm
    · exact c2 q e
  | trans _ _ ih1 ih2 => exact fun h => ih2 (ih1 h)
theorem n_perm {Z : nC} {D : va_G} {A : Nat → Prop} {nL : Nat} {Q : State → Prop} {pc k n : Nat} {ls : List (Nat × Value)} {st : List Value} {ws ws' : va_W} (p : ws.Perm ws') (kk : nW Z D A nL Q pc ls st ws' k n) : nW Z D A nL Q pc ls st ws k n :=
  fun H locs la hP hD hS hl => kk H locs la (n_Pm.mpr (fun q hq => n_Pm.mp hP q (p.mem_iff.mpr hq))) (n_Dp p hD) hS hl
theorem n_pm (a b c : va_W) : (a ++ (b ++ c)).Perm (b ++ (c ++ a)) := List.perm_append_comm.trans (by rw [List.append_assoc])
theorem n_cnt {Z : nC} {D : va_G} {A : Nat → Prop} {nL : Nat} {Q : State → Prop} {pc k n k' n' : Nat} {ls : List (Nat × Value)} {st : List Value} {ws : va_W} (hk : k' = k) (hn : n' = n) (kk : nW Z D A nL Q pc ls st ws k n) : nW Z D A nL Q pc ls st ws k' n' := by
  subst hk; subst hn; exact kk
theorem n_ls {Z : nC} {D : va_G} {A : Nat → Prop} {nL : Nat} {Q : State → Prop} {pc k n : Nat} {ls ls' : List (Nat × Value)} {st : List Value} {ws : va_W} (js : List Nat) (h : lv_pick ls js = ls') (kk : nW Z D A nL Q pc ls' st ws k n) : nW Z D A nL Q pc ls st ws k n :=
  fun H locs la hP hD hS hl => kk H locs la hP hD hS (lv_sub hl js h)
def sa (l : List S6) (j : Nat) : Nat := (l.getD j (0, 0, 0, 0, 0, 0)).1
theorem svf_sa {l : List S6} {i : Nat} (h : i < l.length) : svf l i = some (sa l i) := by
  unfold svf sa
  rw [List.getD_eq_getElem?_getD, List.getElem?_eq_getElem h]
  rfl
theorem n_arr {Z : nC} {D : va_G} {A : Nat → Prop} {nL : Nat} {Q : State → Prop} {pc k n : Nat} {ls : List (Nat × Value)} {st : List Value} {ws ws' : va_W} {j a N : Nat} {cX : ClassId} {f g : Nat → Option Nat} (he : ws[j]? = some (a, .inl (cX, N, .inr (.inr (.inr (.inr f)))))) (hfg : ∀ i, i < N → f i = g i) (hw : ws.set j (a, .inl (cX, N, .inr (.inr (.inr (.inr g))))) = ws') (kk : nW Z D A nL Q pc ls st ws' k n) : nW Z D A nL Q pc ls st ws k n := by
  intro H locs la hP hD hS hl
  have hc : vp_cell cX (N, .inr (.inr (.inr (.inr f)))) = vp_cell cX (N, .inr (.inr (.inr (.inr g)))) := by
    rw [vp_cell_q, vp_cell_q]
    unfold arrV
    congr 2
    funext i
    show va_rf (f i.val) = va_rf (g i.val)
    rw [hfg i.val i.isLt]
  have h0 : H[a]? = some (vp_cell cX (N, .inr (.inr (.inr (.inr f))))) := hP j _ he
  have hP1 := hP.set (e := .inl (cX, N, .inr (.inr (.inr (.inr g))))) (H1 := H) hD he (show H[a]? = some (vp_cell cX (N, .inr (.inr (.inr (.inr g))))) by rw [← hc]; exact h0) (fun _ _ => rfl)
  have hD1 := hD.set (e := .inl (cX, N, .inr (.inr (.inr (.inr g))))) he
  rw [hw] at hP1 hD1
  exact kk H locs la hP1 hD1 hS hl
def worldC (cA : Nat → ClassId) (x : Int32) (h : Nat) (l : List S6) (q : Nat × Nat × Nat × Nat × Nat × Nat × Nat × Nat × Nat × Nat × Nat × Nat) : va_W := match q with
  | (q1, q2, q3, q4, q5, q6, q7, q8, q9, q10, q11, q12) => (q12, .inl (cA 0, 4, .inl (fun _ => 0))) :: (q11, .inl (cA 0, 4, .inl (fun _ => 0))) :: (q10, .inl (cA 0, 80, .inl (fun _ => 0))) :: (q9, .inr (1, [.ref q10, .int 0])) :: (q8, .inl (cA 0, 200, .inl (fun _ => 0))) :: (q7, .inr (1, [.ref q8, .int 0])) :: (q6, .inl (cA 0, 160, .inl (fun _ => 0))) :: (q5, .inr (1, [.ref q6, .int 0])) :: (q4, .inr (0, [.ref q5, .int 0])) :: (q3, .inl (cA 0, 5, .inl (fil 5 (-1000)))) :: (q2, .inl (cA 0, 25, .inl (fil 25 1))) :: (q1, .inl (cA 2, 5, .inr (.inr (.inr (.inr (fun j => some (sa l j))))))) :: (h, .inr (4, [.int x, .ref q1, .ref q2, .ref q3, .ref q4, .ref q7, .ref q9, .ref q11, .ref q12, .int 0, .int 0, .int 0])) :: SV cA l
theorem d_Wo_0 : decode prog_6_method_1_code 0 = .ok (.aload_n 0, 1) := by decide +kernel
theorem d_Wo_1 : decode prog_6_method_1_code 1 = .ok (.invokespecial 3, 3) := by decide +kernel
theorem d_Wo_4 : decode prog_6_method_1_code 4 = .ok (.aload_n 0, 1) := by decide +kernel
theorem d_Wo_5 : decode prog_6_method_1_code 5 = .ok (.iload_n 1, 1) := by decide +kernel
theorem d_Wo_6 : decode prog_6_method_1_code 6 = .ok (.putfield 9, 3) := by decide +kernel
theorem d_Wo_9 : decode prog_6_method_1_code 9 = .ok (.aload_n 0, 1) := by decide +kernel
theorem d_Wo_10 : decode prog_6_method_1_code 10 = .ok (.iconst 5, 1) := by decide +kernel
theorem d_Wo_11 : decode prog_6_method_1_code 11 = .ok (.anewarray 15, 3) := by decide +kernel
theorem d_Wo_14 : decode prog_6_method_1_code 14 = .ok (.putfield 17, 3) := by decide +kernel
theorem d_Wo_17 : decode prog_6_method_1_code 17 = .ok (.aload_n 0, 1) := by decide +kernel
theorem d_Wo_18 : decode prog_6_method_1_code 18 = .ok (.bipush 25, 2) := by decide +kernel
theorem d_Wo_20 : decode prog_6_method_1_code 20 = .ok (.newarray .int, 2) := by decide +kernel
theorem d_Wo_22 : decode prog_6_method_1_code 22 = .ok (.putfield 21, 3) := by decide +kernel
theorem d_Wo_25 : decode prog_6_method_1_code 25 = .ok (.aload_n 0, 1) := by decide +kernel
theorem d_Wo_26 : decode prog_6_method_1_code 26 = .ok (.iconst 5, 1) := by decide +kernel
theorem d_Wo_27 : decode prog_6_method_1_code 27 = .ok (.newarray .int, 2) := by decide +kernel
theorem d_Wo_29 : decode prog_6_method_1_code 29 = .ok (.putfield 25, 3) := by decide +kernel
theorem d_Wo_32 : decode prog_6_method_1_code 32 = .ok (.iconst 0, 1) := by decide +kernel
theorem d_Wo_33 : decode prog_6_method_1_code 33 = .ok (.istore_n 2, 1) := by decide +kernel
theorem d_Wo_34 : decode prog_6_method_1_code 34 = .ok (.iload_n 2, 1) := by decide +kernel
theorem d_Wo_35 : decode prog_6_method_1_code 35 = .ok (.iconst 5, 1) := by decide +kernel
theorem d_Wo_36 : decode prog_6_method_1_code 36 = .ok (.if_icmp .ge 31, 3) := by decide +kernel
theorem d_Wo_39 : decode prog_6_method_1_code 39 = .ok (.aload_n 0, 1) := by decide +kernel
theorem d_Wo_40 : decode prog_6_method_1_code 40 = .ok (.getfield 17, 3) := by decide +kernel
theorem d_Wo_43 : decode prog_6_method_1_code 43 = .ok (.iload_n 2, 1) := by decide +kernel
theorem d_Wo_44 : decode prog_6_method_1_code 44 = .ok (.new 15, 3) := by decide +kernel
theorem d_Wo_47 : decode prog_6_method_1_code 47 = .ok (.dup, 1) := by decide +kernel
theorem d_Wo_48 : decode prog_6_method_1_code 48 = .ok (.invokespecial 28, 3) := by decide +kernel
theorem d_Wo_51 : decode prog_6_method_1_code 51 = .ok (.aastore, 1) := by decide +kernel
theorem d_Wo_52 : decode prog_6_method_1_code 52 = .ok (.aload_n 0, 1) := by decide +kernel
theorem d_Wo_53 : decode prog_6_method_1_code 53 = .ok (.getfield 25, 3) := by decide +kernel
theorem d_Wo_56 : decode prog_6_method_1_code 56 = .ok (.iload_n 2, 1) := by decide +kernel
theorem d_Wo_57 : decode prog_6_method_1_code 57 = .ok (.sipush (-1000), 3) := by decide +kernel
theorem d_Wo_60 : decode prog_6_method_1_code 60 = .ok (.iastore, 1) := by decide +kernel
theorem d_Wo_61 : decode prog_6_method_1_code 61 = .ok (.iinc 2 1, 3) := by decide +kernel
theorem d_Wo_64 : decode prog_6_method_1_code 64 = .ok (.goto (-30), 3) := by decide +kernel
theorem d_Wo_67 : decode prog_6_method_1_code 67 = .ok (.iconst 0, 1) := by decide +kernel
theorem d_Wo_68 : decode prog_6_method_1_code 68 = .ok (.istore_n 2, 1) := by decide +kernel
theorem d_Wo_69 : decode prog_6_method_1_code 69 = .ok (.iload_n 2, 1) := by decide +kernel
theorem d_Wo_70 : decode prog_6_method_1_code 70 = .ok (.bipush 25, 2) := by decide +kernel
theorem d_Wo_72 : decode prog_6_method_1_code 72 = .ok (.if_icmp .ge 16, 3) := by decide +kernel
theorem d_Wo_75 : decode prog_6_method_1_code 75 = .ok (.aload_n 0, 1) := by decide +kernel
theorem d_Wo_76 : decode prog_6_method_1_code 76 = .ok (.getfield 21, 3) := by decide +kernel
theorem d_Wo_79 : decode prog_6_method_1_code 79 = .ok (.iload_n 2, 1) := by decide +kernel
theorem d_Wo_80 : decode prog_6_method_1_code 80 = .ok (.iconst 1, 1) := by decide +kernel
theorem d_Wo_81 : decode prog_6_method_1_code 81 = .ok (.iastore, 1) := by decide +kernel
theorem d_Wo_82 : decode prog_6_method_1_code 82 = .ok (.iinc 2 1, 3) := by decide +kernel
theorem d_Wo_85 : decode prog_6_method_1_code 85 = .ok (.goto (-16), 3) := by decide +kernel
theorem d_Wo_88 : decode prog_6_method_1_code 88 = .ok (.aload_n 0, 1) := by decide +kernel
theorem d_Wo_89 : decode prog_6_method_1_code 89 = .ok (.new 29, 3) := by decide +kernel
theorem d_Wo_92 : decode prog_6_method_1_code 92 = .ok (.dup, 1) := by decide +kernel
theorem d_Wo_93 : decode prog_6_method_1_code 93 = .ok (.invokespecial 31, 3) := by decide +kernel
theorem d_Wo_96 : decode prog_6_method_1_code 96 = .ok (.putfield 32, 3) := by decide +kernel
theorem d_Wo_99 : decode prog_6_method_1_code 99 = .ok (.aload_n 0, 1) := by decide +kernel
theorem d_Wo_100 : decode prog_6_method_1_code 100 = .ok (.new 36, 3) := by decide +kernel
theorem d_Wo_103 : decode prog_6_method_1_code 103 = .ok (.dup, 1) := by decide +kernel
theorem d_Wo_104 : decode prog_6_method_1_code 104 = .ok (.bipush 50, 2) := by decide +kernel
theorem d_Wo_106 : decode prog_6_method_1_code 106 = .ok (.invokespecial 38, 3) := by decide +kernel
theorem d_Wo_109 : decode prog_6_method_1_code 109 = .ok (.putfield 41, 3) := by decide +kernel
theorem d_Wo_112 : decode prog_6_method_1_code 112 = .ok (.aload_n 0, 1) := by decide +kernel
theorem d_Wo_113 : decode prog_6_method_1_code 113 = .ok (.new 36, 3) := by decide +kernel
theorem d_Wo_116 : decode prog_6_method_1_code 116 = .ok (.dup, 1) := by decide +kernel
theorem d_Wo_117 : decode prog_6_method_1_code 117 = .ok (.bipush 20, 2) := by decide +kernel
theorem d_Wo_119 : decode prog_6_method_1_code 119 = .ok (.invokespecial 38, 3) := by decide +kernel
theorem d_Wo_122 : decode prog_6_method_1_code 122 = .ok (.putfield 45, 3) := by decide +kernel
theorem d_Wo_125 : decode prog_6_method_1_code 125 = .ok (.aload_n 0, 1) := by decide +kernel
theorem d_Wo_126 : decode prog_6_method_1_code 126 = .ok (.iconst 4, 1) := by decide +kernel
theorem d_Wo_127 : decode prog_6_method_1_code 127 = .ok (.newarray .int, 2) := by decide +kernel
theorem d_Wo_129 : decode prog_6_method_1_code 129 = .ok (.putfield 48, 3) := by decide +kernel
theorem d_Wo_132 : decode prog_6_method_1_code 132 = .ok (.aload_n 0, 1) := by decide +kernel
theorem d_Wo_133 : decode prog_6_method_1_code 133 = .ok (.iconst 4, 1) := by decide +kernel
theorem d_Wo_134 : decode prog_6_method_1_code 134 = .ok (.newarray .int, 2) := by decide +kernel
theorem d_Wo_136 : decode prog_6_method_1_code 136 = .ok (.putfield 51, 3) := by decide +kernel
theorem d_Wo_139 : decode prog_6_method_1_code 139 = .ok (.aload_n 0, 1) := by decide +kernel
theorem d_Wo_140 : decode prog_6_method_1_code 140 = .ok (.iconst 0, 1) := by decide +kernel
theorem d_Wo_141 : decode prog_6_method_1_code 141 = .ok (.putfield 54, 3) := by decide +kernel
theorem d_Wo_144 : decode prog_6_method_1_code 144 = .ok (.aload_n 0, 1) := by decide +kernel
theorem d_Wo_145 : decode prog_6_method_1_code 145 = .ok (.iconst 0, 1) := by decide +kernel
theorem d_Wo_146 : decode prog_6_method_1_code 146 = .ok (.putfield 57, 3) := by decide +kernel
theorem d_Wo_149 : decode prog_6_method_1_code 149 = .ok (.aload_n 0, 1) := by decide +kernel
theorem d_Wo_150 : decode prog_6_method_1_code 150 = .ok (.iconst 0, 1) := by decide +kernel
theorem d_Wo_151 : decode prog_6_method_1_code 151 = .ok (.putfield 60, 3) := by decide +kernel
theorem d_Wo_154 : decode prog_6_method_1_code 154 = .ok (.return_, 1) := by decide +kernel
set_option maxRecDepth 20000 in
theorem c_Wo (l : Launch) (D : va_G) (cA : Nat → ClassId) (x : Int32) (h0 : Nat) : nT l D cA ⟨"LeaseCluster$World", "<init>", "(I)V"⟩ prog_6_method_1_code 3 rm_Wo h0 (.inr (4, [.int 0, .null, .null, .null, .null, .null, .null, .null, .null, .int 0, .int 0, .int 0])) [.int x] (fun u : { l : List S6 // l.length = 5 } × (Nat × Nat × Nat × Nat × Nat × Nat × Nat × Nat × Nat × Nat × Nat × Nat) => worldC cA x h0 u.1.1 u.2) := by
  refine n_in (by decide) rfl (Nat.le_of_ble_eq_true rfl) (fun Z hl hR hr hin hlk ok => ?_)
  refine n_al ok (j := 0) d_Wo_0 rfl ?_
  refine n_oi ok (gw_in1 30 rfl rfl) (gw_in1 17 rfl rfl) (gw_in1 18 rfl rfl) d_Wo_1 (by rw [hR]; exact Nat.le_of_ble_eq_true rfl) (by rw [hR]; exact Nat.le_of_ble_eq_true rfl) ?_
  refine n_al ok (j := 0) d_Wo_4 rfl ?_
  refine n_il ok (j := 1) d_Wo_5 rfl ?_
  refine n_putF ok hin (ci := 4) (f := 0) (j := 0) (v := .int x) (ty := .int) (ws' := [(h0, .inr (4, [.int x, .null, .null, .null, .null, .null, .null, .null, .null, .int 0, .int 0, .int 0]))]) rfl (by decide) (gw_in1 126 rfl rfl) rfl rfl (by decide +kernel) rfl rfl rfl (Nat.le_of_ble_eq_true rfl) rfl d_Wo_6 ?_
  refine n_al ok (j := 0) d_Wo_9 rfl ?_
  refine n_ic ok (v := 5) d_Wo_10 (by decide) ?_
  refine n_nq ok (N := 5) (t := 2) (C := "LeaseCluster$Server") rfl (by omega) (by simp) (gw_in1 31 rfl rfl) (by rw [hR]; exact Nat.le_of_ble_eq_true rfl) (by rw [hR]; exact Nat.le_of_ble_eq_true rfl) d_Wo_11 (fun q1 => ?_)
  refine n_putF ok hin (ci := 4) (f := 1) (j := 1) (v := .ref q1) (ty := (.array (.object "LeaseCluster$Server"))) (ws' := [(q1, .inl (cA 2, 5, .inr (.inr (.inr (.inr (fun _ => none)))))), (h0, .inr (4, [.int x, .ref q1, .null, .null, .null, .null, .null, .null, .null, .int 0, .int 0, .int 0]))]) rfl (by decide) (gw_in1 128 rfl rfl) rfl rfl (by decide +kernel) rfl rfl rfl (Nat.le_of_ble_eq_true rfl) rfl d_Wo_14 ?_
  refine n_al ok (j := 0) d_Wo_17 rfl ?_
  refine n_bi ok (v := 25) d_Wo_18 (by decide) ?_
  refine n_ni ok (N := 25) rfl (by omega) (gw_in1 62 rfl rfl) (by rw [hR]; exact Nat.le_of_ble_eq_true rfl) (by rw [hR]; exact Nat.le_of_ble_eq_true rfl) d_Wo_20 (fun q2 => ?_)
  refine n_putF ok hin (ci := 4) (f := 2) (j := 2) (v := .ref q2) (ty := (.array .int)) (ws' := [(q2, .inl (cA 0, 25, .inl (fun _ => 0))), (q1, .inl (cA 2, 5, .inr (.inr (.inr (.inr (fun _ => none)))))), (h0, .inr (4, [.int x, .ref q1, .ref q2, .null, .null, .null, .null, .null, .null, .int 0, .int 0, .int 0]))]) rfl (by decide) (gw_in1 130 rfl rfl) rfl rfl (by decide +kernel) rfl rfl rfl (Nat.le_of_ble_eq_true rfl) rfl d_Wo_22 ?_
  refine n_al ok (j := 0) d_Wo_25 rfl ?_
  refine n_ic ok (v := 5) d_Wo_26 (by decide) ?_
  refine n_ni ok (N := 5) rfl (by omega) (gw_in1 62 rfl rfl) (by rw [hR]; exact Nat.le_of_ble_eq_true rfl) (by rw [hR]; exact Nat.le_of_ble_eq_true rfl) d_Wo_27 (fun q3 => ?_)
  refine n_putF ok hin (ci := 4) (f := 3) (j := 3) (v := .ref q3) (ty := (.array .int)) (ws' := [(q3, .inl (cA 0, 5, .inl (fun _ => 0))), (q2, .inl (cA 0, 25, .inl (fun _ => 0))), (q1, .inl (cA 2, 5, .inr (.inr (.inr (.inr (fun _ => none)))))), (h0, .inr (4, [.int x, .ref q1, .ref q2, .ref q3, .null, .null, .null, .null, .null, .int 0, .int 0, .int 0]))]) rfl (by decide) (gw_in1 132 rfl rfl) rfl rfl (by decide +kernel) rfl rfl rfl (Nat.le_of_ble_eq_true rfl) rfl d_Wo_29 ?_
  have tail : ∀ (l : List S6), l.length = 5 → nW Z D (va_A [(h0, .inr (4, [.int 0, .null, .null, .null, .null, .null, .null, .null, .null, .int 0, .int 0, .int 0]))] (n_s Z).heap.size) 3 (nQ Z D rm_Wo h0 (.inr (4, [.int 0, .null, .null, .null, .null, .null, .null, .null, .null, .int 0, .int 0, .int 0])) (fun u : { l : List S6 // l.length = 5 } × (Nat × Nat × Nat × Nat × Nat × Nat × Nat × Nat × Nat × Nat × Nat × Nat) => worldC cA x h0 u.1.1 u.2)) 88 [(2, .int (nI 25)), (0, .ref h0), (1, .int x)] [] ((q3, .inl (cA 0, 5, .inl (fil 5 (-1000)))) :: (q2, .inl (cA 0, 25, .inl (fil 25 1))) :: (q1, .inl (cA 2, 5, .inr (.inr (.inr (.inr (svf l)))))) :: (h0, .inr (4, [.int x, .ref q1, .ref q2, .ref q3, .null, .null, .null, .null, .null, .int 0, .int 0, .int 0])) :: SV cA l) 33 1710 := by
    intro l hl5
    refine n_al ok (j := 1) d_Wo_88 rfl ?_
    refine n_new ok (ci := 0) (fs := [.null, .int 0]) rfl tyX0 tyX0_ok (by decide) (gw_in1 122 rfl rfl) (gw_in1 39 rfl rfl) (gw_in1 5 rfl rfl) (by rw [hR]; exact Nat.le_of_ble_eq_true rfl) (by rw [hR]; exact Nat.le_of_ble_eq_true rfl) d_Wo_89 (fun q4 => ?_)
    refine n_dup ok d_Wo_92 ?_
    refine n_call ok (As := []) (c_Lo Z.2.1 D cA q4) (gw_in1 42 rfl rfl) (gw_in1 123 rfl rfl) (gw_in1 41 rfl rfl) (gw_in1 5 rfl rfl) rfl (by decide +kernel) rfl ⟨by rw [hR]; exact Nat.le_of_ble_eq_true rfl, by rw [hR]; exact Nat.le_of_ble_eq_true rfl⟩ (Nat.le_of_ble_eq_true rfl) ⟨by rw [hR]; exact Nat.le_of_ble_eq_true rfl, by rw [hR]; exact Nat.le_of_ble_eq_true rfl⟩ d_Wo_93 (fun u => ?_)
    obtain ⟨q5, q6⟩ := u
    show nW Z D _ 3 _ 96 [(2, .int (nI 25)), (0, .ref h0), (1, .int x)] [.ref q4, .ref h0] ((q6, .inl (cA 0, 160, .inl (fun _ => 0))) :: (q5, .inr (1, [.ref q6, .int 0])) :: (q4, .inr (0, [.ref q5, .int 0])) :: (q3, .inl (cA 0, 5, .inl (fil 5 (-1000)))) :: (q2, .inl (cA 0, 25, .inl (fil 25 1))) :: (q1, .inl (cA 2, 5, .inr (.inr (.inr (.inr (svf l)))))) :: (h0, .inr (4, [.int x, .ref q1, .ref q2, .ref q3, .null, .null, .null, .null, .null, .int 0, .int 0, .int 0])) :: SV cA l) _ _
    refine n_putF ok hin (ci := 4) (f := 4) (j := 6) (v := .ref q4) (ty := (.object "LeaseCluster$Log")) (ws' := ((q6, .inl (cA 0, 160, .inl (fun _ => 0))) :: (q5, .inr (1, [.ref q6, .int 0])) :: (q4, .inr (0, [.ref q5, .int 0])) :: (q3, .inl (cA 0, 5, .inl (fil 5 (-1000)))) :: (q2, .inl (cA 0, 25, .inl (fil 25 1))) :: (q1, .inl (cA 2, 5, .inr (.inr (.inr (.inr (svf l)))))) :: (h0, .inr (4, [.int x, .ref q1, .ref q2, .ref q3, .ref q4, .null, .null, .null, .null, .int 0, .int 0, .int 0])) :: SV cA l)) rfl (by decide) (gw_in1 134 rfl rfl) rfl rfl (by decide +kernel) rfl rfl rfl (Nat.le_of_ble_eq_true rfl) rfl d_Wo_96 ?_
    refine n_al ok (j := 1) d_Wo_99 rfl ?_
    refine n_new ok (ci := 1) (fs := [.null, .int 0]) rfl tyX1 tyX1_ok (by decide) (gw_in1 124 rfl rfl) (gw_in1 45 rfl rfl) (gw_in1 6 rfl rfl) (by rw [hR]; exact Nat.le_of_ble_eq_true rfl) (by rw [hR]; exact Nat.le_of_ble_eq_true rfl) d_Wo_100 (fun q7 => ?_)
    refine n_dup ok d_Wo_103 ?_
    refine n_bi ok (v := 50) d_Wo_104 (by decide) ?_
    refine n_call ok (As := [.int 50]) (c_Ro Z.2.1 D cA 50 (by omega) q7) (gw_in1 48 rfl rfl) (gw_in1 125 rfl rfl) (gw_in1 47 rfl rfl) (gw_in1 6 rfl rfl) rfl (by decide +kernel) rfl ⟨by rw [hR]; exact Nat.le_of_ble_eq_true rfl, by rw [hR]; exact Nat.le_of_ble_eq_true rfl⟩ (Nat.le_of_ble_eq_true rfl) ⟨by rw [hR]; exact Nat.le_of_ble_eq_true rfl, by rw [hR]; exact Nat.le_of_ble_eq_true rfl⟩ d_Wo_106 (fun u => ?_)
    obtain ⟨q8, rfl⟩ : ∃ z, z = u := ⟨_, rfl⟩
    show nW Z D _ 3 _ 109 [(2, .int (nI 25)), (0, .ref h0), (1, .int x)] [.ref q7, .ref h0] ((q8, .inl (cA 0, 200, .inl (fun _ => 0))) :: (q7, .inr (1, [.ref q8, .int 0])) :: (q6, .inl (cA 0, 160, .inl (fun _ => 0))) :: (q5, .inr (1, [.ref q6, .int 0])) :: (q4, .inr (0, [.ref q5, .int 0])) :: (q3, .inl (cA 0, 5, .inl (fil 5 (-1000)))) :: (q2, .inl (cA 0, 25, .inl (fil 25 1))) :: (q1, .inl (cA 2, 5, .inr (.inr (.inr (.inr (svf l)))))) :: (h0, .inr (4, [.int x, .ref q1, .ref q2, .ref q3, .ref q4, .null, .null, .null, .null, .int 0, .int 0, .int 0])) :: SV cA l) _ _
    refine n_putF ok hin (ci := 4) (f := 5) (j := 8) (v := .ref q7) (ty := (.object "LeaseCluster$Rows")) (ws' := ((q8, .inl (cA 0, 200, .inl (fun _ => 0))) :: (q7, .inr (1, [.ref q8, .int 0])) :: (q6, .inl (cA 0, 160, .inl (fun _ => 0))) :: (q5, .inr (1, [.ref q6, .int 0])) :: (q4, .inr (0, [.ref q5, .int 0])) :: (q3, .inl (cA 0, 5, .inl (fil 5 (-1000)))) :: (q2, .inl (cA 0, 25, .inl (fil 25 1))) :: (q1, .inl (cA 2, 5, .inr (.inr (.inr (.inr (svf l)))))) :: (h0, .inr (4, [.int x, .ref q1, .ref q2, .ref q3, .ref q4, .ref q7, .null, .null, .null, .int 0, .int 0, .int 0])) :: SV cA l)) rfl (by decide) (gw_in1 136 rfl rfl) rfl rfl (by decide +kernel) rfl rfl rfl (Nat.le_of_ble_eq_true rfl) rfl d_Wo_109 ?_
    refine n_al ok (j := 1) d_Wo_112 rfl ?_
    refine n_new ok (ci := 1) (fs := [.null, .int 0]) rfl tyX1 tyX1_ok (by decide) (gw_in1 124 rfl rfl) (gw_in1 45 rfl rfl) (gw_in1 6 rfl rfl) (by rw [hR]; exact Nat.le_of_ble_eq_true rfl) (by rw [hR]; exact Nat.le_of_ble_eq_true rfl) d_Wo_113 (fun q9 => ?_)
    refine n_dup ok d_Wo_116 ?_
    refine n_bi ok (v := 20) d_Wo_117 (by decide) ?_
    refine n_call ok (As := [.int 20]) (c_Ro Z.2.1 D cA 20 (by omega) q9) (gw_in1 48 rfl rfl) (gw_in1 125 rfl rfl) (gw_in1 47 rfl rfl) (gw_in1 6 rfl rfl) rfl (by decide +kernel) rfl ⟨by rw [hR]; exact Nat.le_of_ble_eq_true rfl, by rw [hR]; exact Nat.le_of_ble_eq_true rfl⟩ (Nat.le_of_ble_eq_true rfl) ⟨by rw [hR]; exact Nat.le_of_ble_eq_true rfl, by rw [hR]; exact Nat.le_of_ble_eq_true rfl⟩ d_Wo_119 (fun u => ?_)
    obtain ⟨q10, rfl⟩ : ∃ z, z = u := ⟨_, rfl⟩
    show nW Z D _ 3 _ 122 [(2, .int (nI 25)), (0, .ref h0), (1, .int x)] [.ref q9, .ref h0] ((q10, .inl (cA 0, 80, .inl (fun _ => 0))) :: (q9, .inr (1, [.ref q10, .int 0])) :: (q8, .inl (cA 0, 200, .inl (fun _ => 0))) :: (q7, .inr (1, [.ref q8, .int 0])) :: (q6, .inl (cA 0, 160, .inl (fun _ => 0))) :: (q5, .inr (1, [.ref q6, .int 0])) :: (q4, .inr (0, [.ref q5, .int 0])) :: (q3, .inl (cA 0, 5, .inl (fil 5 (-1000)))) :: (q2, .inl (cA 0, 25, .inl (fil 25 1))) :: (q1, .inl (cA 2, 5, .inr (.inr (.inr (.inr (svf l)))))) :: (h0, .inr (4, [.int x, .ref q1, .ref q2, .ref q3, .ref q4, .ref q7, .null, .null, .null, .int 0, .int 0, .int 0])) :: SV cA l) _ _
    refine n_putF ok hin (ci := 4) (f := 6) (j := 10) (v := .ref q9) (ty := (.object "LeaseCluster$Rows")) (ws' := ((q10, .inl (cA 0, 80, .inl (fun _ => 0))) :: (q9, .inr (1, [.ref q10, .int 0])) :: (q8, .inl (cA 0, 200, .inl (fun _ => 0))) :: (q7, .inr (1, [.ref q8, .int 0])) :: (q6, .inl (cA 0, 160, .inl (fun _ => 0))) :: (q5, .inr (1, [.ref q6, .int 0])) :: (q4, .inr (0, [.ref q5, .int 0])) :: (q3, .inl (cA 0, 5, .inl (fil 5 (-1000)))) :: (q2, .inl (cA 0, 25, .inl (fil 25 1))) :: (q1, .inl (cA 2, 5, .inr (.inr (.inr (.inr (svf l)))))) :: (h0, .inr (4, [.int x, .ref q1, .ref q2, .ref q3, .ref q4, .ref q7, .ref q9, .null, .null, .int 0, .int 0, .int 0])) :: SV cA l)) rfl (by decide) (gw_in1 138 rfl rfl) rfl rfl (by decide +kernel) rfl rfl rfl (Nat.le_of_ble_eq_true rfl) rfl d_Wo_122 ?_
    refine n_al ok (j := 1) d_Wo_125 rfl ?_
    refine n_ic ok (v := 4) d_Wo_126 (by decide) ?_
    refine n_ni ok (N := 4) rfl (by omega) (gw_in1 62 rfl rfl) (by rw [hR]; exact Nat.le_of_ble_eq_true rfl) (by rw [hR]; exact Nat.le_of_ble_eq_true rfl) d_Wo_127 (fun q11 => ?_)
    refine n_putF ok hin (ci := 4) (f := 7) (j := 11) (v := .ref q11) (ty := (.array .int)) (ws' := ((q11, .inl (cA 0, 4, .inl (fun _ => 0))) :: (q10, .inl (cA 0, 80, .inl (fun _ => 0))) :: (q9, .inr (1, [.ref q10, .int 0])) :: (q8, .inl (cA 0, 200, .inl (fun _ => 0))) :: (q7, .inr (1, [.ref q8, .int 0])) :: (q6, .inl (cA 0, 160, .inl (fun _ => 0))) :: (q5, .inr (1, [.ref q6, .int 0])) :: (q4, .inr (0, [.ref q5, .int 0])) :: (q3, .inl (cA 0, 5, .inl (fil 5 (-1000)))) :: (q2, .inl (cA 0, 25, .inl (fil 25 1))) :: (q1, .inl (cA 2, 5, .inr (.inr (.inr (.inr (svf l)))))) :: (h0, .inr (4, [.int x, .ref q1, .ref q2, .ref q3, .ref q4, .ref q7, .ref q9, .ref q11, .null, .int 0, .int 0, .int 0])) :: SV cA l)) rfl (by decide) (gw_in1 140 rfl rfl) rfl rfl (by decide +kernel) rfl rfl rfl (Nat.le_of_ble_eq_true rfl) rfl d_Wo_129 ?_
    refine n_al ok (j := 1) d_Wo_132 rfl ?_
    refine n_ic ok (v := 4) d_Wo_133 (by decide) ?_
    refine n_ni ok (N := 4) rfl (by omega) (gw_in1 62 rfl rfl) (by rw [hR]; exact Nat.le_of_ble_eq_true rfl) (by rw [hR]; exact Nat.le_of_ble_eq_true rfl) d_Wo_134 (fun q12 => ?_)
    refine n_putF ok hin (ci := 4) (f := 8) (j := 12) (v := .ref q12) (ty := (.array .int)) (ws' := ((q12, .inl (cA 0, 4, .inl (fun _ => 0))) :: (q11, .inl (cA 0, 4, .inl (fun _ => 0))) :: (q10, .inl (cA 0, 80, .inl (fun _ => 0))) :: (q9, .inr (1, [.ref q10, .int 0])) :: (q8, .inl (cA 0, 200, .inl (fun _ => 0))) :: (q7, .inr (1, [.ref q8, .int 0])) :: (q6, .inl (cA 0, 160, .inl (fun _ => 0))) :: (q5, .inr (1, [.ref q6, .int 0])) :: (q4, .inr (0, [.ref q5, .int 0])) :: (q3, .inl (cA 0, 5, .inl (fil 5 (-1000)))) :: (q2, .inl (cA 0, 25, .inl (fil 25 1))) :: (q1, .inl (cA 2, 5, .inr (.inr (.inr (.inr (svf l)))))) :: (h0, .inr (4, [.int x, .ref q1, .ref q2, .ref q3, .ref q4, .ref q7, .ref q9, .ref q11, .ref q12, .int 0, .int 0, .int 0])) :: SV cA l)) rfl (by decide) (gw_in1 142 rfl rfl) rfl rfl (by decide +kernel) rfl rfl rfl (Nat.le_of_ble_eq_true rfl) rfl d_Wo_136 ?_
    refine n_al ok (j := 1) d_Wo_139 rfl ?_
    refine n_ic ok (v := 0) d_Wo_140 (by decide) ?_
    refine n_put ok (ci := 4) (f := 9) (j := 12) (v := .int 0) (ty := .int) (ws' := ((q12, .inl (cA 0, 4, .inl (fun _ => 0))) :: (q11, .inl (cA 0, 4, .inl (fun _ => 0))) :: (q10, .inl (cA 0, 80, .inl (fun _ => 0))) :: (q9, .inr (1, [.ref q10, .int 0])) :: (q8, .inl (cA 0, 200, .inl (fun _ => 0))) :: (q7, .inr (1, [.ref q8, .int 0])) :: (q6, .inl (cA 0, 160, .inl (fun _ => 0))) :: (q5, .inr (1, [.ref q6, .int 0])) :: (q4, .inr (0, [.ref q5, .int 0])) :: (q3, .inl (cA 0, 5, .inl (fil 5 (-1000)))) :: (q2, .inl (cA 0, 25, .inl (fil 25 1))) :: (q1, .inl (cA 2, 5, .inr (.inr (.inr (.inr (svf l)))))) :: (h0, .inr (4, [.int x, .ref q1, .ref q2, .ref q3, .ref q4, .ref q7, .ref q9, .ref q11, .ref q12, .int 0, .int 0, .int 0])) :: SV cA l)) rfl (by decide) (gw_in1 144 rfl rfl) rfl (by decide +kernel) rfl rfl rfl (Nat.le_of_ble_eq_true rfl) rfl d_Wo_141 ?_
    refine n_al ok (j := 1) d_Wo_144 rfl ?_
    refine n_ic ok (v := 0) d_Wo_145 (by decide) ?_
    refine n_put ok (ci := 4) (f := 10) (j := 12) (v := .int 0) (ty := .int) (ws' := ((q12, .inl (cA 0, 4, .inl (fun _ => 0))) :: (q11, .inl (cA 0, 4, .inl (fun _ => 0))) :: (q10, .inl (cA 0, 80, .inl (fun _ => 0))) :: (q9, .inr (1, [.ref q10, .int 0])) :: (q8, .inl (cA 0, 200, .inl (fun _ => 0))) :: (q7, .inr (1, [.ref q8, .int 0])) :: (q6, .inl (cA 0, 160, .inl (fun _ => 0))) :: (q5, .inr (1, [.ref q6, .int 0])) :: (q4, .inr (0, [.ref q5, .int 0])) :: (q3, .inl (cA 0, 5, .inl (fil 5 (-1000)))) :: (q2, .inl (cA 0, 25, .inl (fil 25 1))) :: (q1, .inl (cA 2, 5, .inr (.inr (.inr (.inr (svf l)))))) :: (h0, .inr (4, [.int x, .ref q1, .ref q2, .ref q3, .ref q4, .ref q7, .ref q9, .ref q11, .ref q12, .int 0, .int 0, .int 0])) :: SV cA l)) rfl (by decide) (gw_in1 146 rfl rfl) rfl (by decide +kernel) rfl rfl rfl (Nat.le_of_ble_eq_true rfl) rfl d_Wo_146 ?_
    refine n_al ok (j := 1) d_Wo_149 rfl ?_
    refine n_ic ok (v := 0) d_Wo_150 (by decide) ?_
    refine n_put ok (ci := 4) (f := 11) (j := 12) (v := .int 0) (ty := .int) (ws' := ((q12, .inl (cA 0, 4, .inl (fun _ => 0))) :: (q11, .inl (cA 0, 4, .inl (fun _ => 0))) :: (q10, .inl (cA 0, 80, .inl (fun _ => 0))) :: (q9, .inr (1, [.ref q10, .int 0])) :: (q8, .inl (cA 0, 200, .inl (fun _ => 0))) :: (q7, .inr (1, [.ref q8, .int 0])) :: (q6, .inl (cA 0, 160, .inl (fun _ => 0))) :: (q5, .inr (1, [.ref q6, .int 0])) :: (q4, .inr (0, [.ref q5, .int 0])) :: (q3, .inl (cA 0, 5, .inl (fil 5 (-1000)))) :: (q2, .inl (cA 0, 25, .inl (fil 25 1))) :: (q1, .inl (cA 2, 5, .inr (.inr (.inr (.inr (svf l)))))) :: (h0, .inr (4, [.int x, .ref q1, .ref q2, .ref q3, .ref q4, .ref q7, .ref q9, .ref q11, .ref q12, .int 0, .int 0, .int 0])) :: SV cA l)) rfl (by decide) (gw_in1 148 rfl rfl) rfl (by decide +kernel) rfl rfl rfl (Nat.le_of_ble_eq_true rfl) rfl d_Wo_151 ?_
    refine n_arr (j := 11) (ws' := ((q12, .inl (cA 0, 4, .inl (fun _ => 0))) :: (q11, .inl (cA 0, 4, .inl (fun _ => 0))) :: (q10, .inl (cA 0, 80, .inl (fun _ => 0))) :: (q9, .inr (1, [.ref q10, .int 0])) :: (q8, .inl (cA 0, 200, .inl (fun _ => 0))) :: (q7, .inr (1, [.ref q8, .int 0])) :: (q6, .inl (cA 0, 160, .inl (fun _ => 0))) :: (q5, .inr (1, [.ref q6, .int 0])) :: (q4, .inr (0, [.ref q5, .int 0])) :: (q3, .inl (cA 0, 5, .inl (fil 5 (-1000)))) :: (q2, .inl (cA 0, 25, .inl (fil 25 1))) :: (q1, .inl (cA 2, 5, .inr (.inr (.inr (.inr (fun j => some (sa l j))))))) :: (h0, .inr (4, [.int x, .ref q1, .ref q2, .ref q3, .ref q4, .ref q7, .ref q9, .ref q11, .ref q12, .int 0, .int 0, .int 0])) :: SV cA l)) rfl (fun i hi => svf_sa (by omega)) rfl ?_
    exact n_ret ok rfl hr hlk d_Wo_154 rfl rfl (⟨l, hl5⟩, (q1, q2, q3, q4, q5, q6, q7, q8, q9, q10, q11, q12)) rfl
  have lp2 : ∀ (l : List S6), l.length = 5 → ∀ (f i : Nat), 25 - i < f → i ≤ 25 → nW Z D (va_A [(h0, .inr (4, [.int 0, .null, .null, .null, .null, .null, .null, .null, .null, .int 0, .int 0, .int 0]))] (n_s Z).heap.size) 3 (nQ Z D rm_Wo h0 (.inr (4, [.int 0, .null, .null, .null, .null, .null, .null, .null, .null, .int 0, .int 0, .int 0])) (fun u : { l : List S6 // l.length = 5 } × (Nat × Nat × Nat × Nat × Nat × Nat × Nat × Nat × Nat × Nat × Nat × Nat) => worldC cA x h0 u.1.1 u.2)) 69 [(2, .int (nI i)), (0, .ref h0), (1, .int x)] [] ((q3, .inl (cA 0, 5, .inl (fil 5 (-1000)))) :: (q2, .inl (cA 0, 25, .inl (fil i 1))) :: (q1, .inl (cA 2, 5, .inr (.inr (.inr (.inr (svf l)))))) :: (h0, .inr (4, [.int x, .ref q1, .ref q2, .ref q3, .null, .null, .null, .null, .null, .int 0, .int 0, .int 0])) :: SV cA l) 33 1710 := by
    intro l hl5 f
    induction f with
    | zero => intro i hf; exact absurd hf (Nat.not_lt_zero _)
    | succ f ih =>
      intro i hf hi
      refine n_il ok (j := 0) d_Wo_69 rfl ?_
      refine n_bi ok (v := 25) d_Wo_70 (by decide) ?_
      refine n_ge ok (t := 88) d_Wo_72 (by decide) (fun c => ?_) (fun c => ?_)
      · have e : i = 25 := by
          rw [show (25 : Int32) = nI 25 from rfl, ← Int32.not_lt, ni_ltn (by omega) (by omega)] at c
          omega
        subst e
        exact tail l hl5
      · have e : i < 25 := by
          rw [show (25 : Int32) = nI 25 from rfl, Int32.not_le, ni_ltn (by omega) (by omega)] at c
          exact c
        refine n_al ok (j := 1) d_Wo_75 rfl ?_
        refine n_get ok (ci := 4) (f := 2) (j := 3) rfl (by decide) (gw_in1 130 rfl rfl) rfl rfl d_Wo_76 ?_
        refine n_il ok (j := 0) d_Wo_79 rfl ?_
        refine n_ic ok (v := 1) d_Wo_80 (by decide) ?_
        refine n_ias ok (j := 1) (i := i) (ws' := ((q3, .inl (cA 0, 5, .inl (fil 5 (-1000)))) :: (q2, .inl (cA 0, 25, .inl (fil (i + 1) 1))) :: (q1, .inl (cA 2, 5, .inr (.inr (.inr (.inr (svf l)))))) :: (h0, .inr (4, [.int x, .ref q1, .ref q2, .ref q3, .null, .null, .null, .null, .null, .int 0, .int 0, .int 0])) :: SV cA l)) rfl rfl e (by omega) (by rw [← fil_up i 1]; rfl) d_Wo_81 ?_
        refine n_inc ok (j := 0) (v := nI (i + 1)) (ls' := [(2, .int (nI (i + 1))), (0, .ref h0), (1, .int x)]) d_Wo_82 rfl (by rw [← nI_1]; rfl) (by decide) rfl ?_
        refine n_go ok (t := 69) d_Wo_85 (by decide) ?_
        exact ih (i + 1) (by omega) (by omega)
  have lp1 : ∀ (f i : Nat) (l : List S6), 5 - i < f → i ≤ 5 → l.length = i → nW Z D (va_A [(h0, .inr (4, [.int 0, .null, .null, .null, .null, .null, .null, .null, .null, .int 0, .int 0, .int 0]))] (n_s Z).heap.size) 3 (nQ Z D rm_Wo h0 (.inr (4, [.int 0, .null, .null, .null, .null, .null, .null, .null, .null, .int 0, .int 0, .int 0])) (fun u : { l : List S6 // l.length = 5 } × (Nat × Nat × Nat × Nat × Nat × Nat × Nat × Nat × Nat × Nat × Nat × Nat) => worldC cA x h0 u.1.1 u.2)) 34 [(2, .int (nI i)), (0, .ref h0), (1, .int x)] [] ((q3, .inl (cA 0, 5, .inl (fil i (-1000)))) :: (q2, .inl (cA 0, 25, .inl (fil 0 1))) :: (q1, .inl (cA 2, 5, .inr (.inr (.inr (.inr (svf l)))))) :: (h0, .inr (4, [.int x, .ref q1, .ref q2, .ref q3, .null, .null, .null, .null, .null, .int 0, .int 0, .int 0])) :: SV cA l) (3 + 6 * i) (35 + 335 * i) := by
    intro f
    induction f with
    | zero => intro i l hf; exact absurd hf (Nat.not_lt_zero _)
    | succ f ih =>
      intro i l hf hi hl
      refine n_il ok (j := 0) d_Wo_34 rfl ?_
      refine n_ic ok (v := 5) d_Wo_35 (by decide) ?_
      refine n_ge ok (t := 67) d_Wo_36 (by decide) (fun c => ?_) (fun c => ?_)
      · have e : i = 5 := by
          rw [show (5 : Int32) = nI 5 from rfl, ← Int32.not_lt, ni_ltn (by omega) (by omega)] at c
          omega
        subst e
        refine n_cnt (k := 33) (n := 1710) (by omega) (by omega) ?_
        refine n_ic ok (v := 0) d_Wo_67 (by decide) ?_
        refine n_is ok (ls' := [(2, .int 0), (0, .ref h0), (1, .int x)]) d_Wo_68 (by decide) rfl ?_
        exact lp2 l hl 26 0 (by omega) (by omega)
      · have e : i < 5 := by
          rw [show (5 : Int32) = nI 5 from rfl, Int32.not_le, ni_ltn (by omega) (by omega)] at c
          exact c
        refine n_al ok (j := 1) d_Wo_39 rfl ?_
        refine n_get ok (ci := 4) (f := 1) (j := 3) rfl (by decide) (gw_in1 128 rfl rfl) rfl rfl d_Wo_40 ?_
        refine n_il ok (j := 0) d_Wo_43 rfl ?_
        refine n_new ok (ci := 3) (fs := [.null, .null, .int 0, .int 0, .int 0, .int 0, .int 0, .int 0, .int 0]) rfl tyX3 tyX3_ok (by decide) (gw_in1 31 rfl rfl) (gw_in1 33 rfl rfl) (gw_in1 4 rfl rfl) (by rw [hR]; show 3 + 6 * i + 1 ≤ 42; omega) (by rw [hR]; show 35 + 335 * i + 9 ≤ 2166; omega) d_Wo_44 (fun p0 => ?_)
        refine n_dup ok d_Wo_47 ?_
        refine n_call ok (As := []) (c_Se Z.2.1 D cA p0) (gw_in1 36 rfl rfl) (gw_in1 34 rfl rfl) (gw_in1 35 rfl rfl) (gw_in1 4 rfl rfl) rfl (by decide +kernel) rfl ⟨by rw [hR]; exact Nat.le_of_ble_eq_true rfl, by rw [hR]; exact Nat.le_of_ble_eq_true rfl⟩ (Nat.le_of_ble_eq_true rfl) ⟨by rw [hR]; show 3 + 6 * i + 1 + 5 ≤ 42; omega, by rw [hR]; show 35 + 335 * i + 9 + 326 ≤ 2166; omega⟩ d_Wo_48 (fun u => ?_)
        obtain ⟨p1, p2, p3, p4, p5⟩ := u
        show nW Z D _ 3 _ 51 [(2, .int (nI i)), (0, .ref h0), (1, .int x)] [.ref p0, .int (nI i), .ref q1] ((p5, .inl (cA 0, 160, .inl (fun _ => 0))) :: (p4, .inr (1, [.ref p5, .int 0])) :: (p3, .inl (cA 0, 160, .inl (fun _ => 0))) :: (p2, .inr (1, [.ref p3, .int 0])) :: (p1, .inr (0, [.ref p2, .int 0])) :: (p0, .inr (3, [.ref p1, .ref p4, .int 0, .int 0, .int 0, .int (-1000), .int (-1000), .int (-1000), .int (-1000)])) :: (q3, .inl (cA 0, 5, .inl (fil i (-1000)))) :: (q2, .inl (cA 0, 25, .inl (fil 0 1))) :: (q1, .inl (cA 2, 5, .inr (.inr (.inr (.inr (svf l)))))) :: (h0, .inr (4, [.int x, .ref q1, .ref q2, .ref q3, .null, .null, .null, .null, .null, .int 0, .int 0, .int 0])) :: SV cA l) _ _
        refine n_aas ok (j := 8) (t := 2) (i := i) (jv := 5) (ci := 3) (r := (RX3, TX3, 9)) (ws' := ((p5, .inl (cA 0, 160, .inl (fun _ => 0))) :: (p4, .inr (1, [.ref p5, .int 0])) :: (p3, .inl (cA 0, 160, .inl (fun _ => 0))) :: (p2, .inr (1, [.ref p3, .int 0])) :: (p1, .inr (0, [.ref p2, .int 0])) :: (p0, .inr (3, [.ref p1, .ref p4, .int 0, .int 0, .int 0, .int (-1000), .int (-1000), .int (-1000), .int (-1000)])) :: (q3, .inl (cA 0, 5, .inl (fil i (-1000)))) :: (q2, .inl (cA 0, 25, .inl (fil 0 1))) :: (q1, .inl (cA 2, 5, .inr (.inr (.inr (.inr (svf (l ++ [(p0, p1, p2, p3, p4, p5)]))))))) :: (h0, .inr (4, [.int x, .ref q1, .ref q2, .ref q3, .null, .null, .null, .null, .null, .int 0, .int 0, .int 0])) :: SV cA l)) rfl rfl rfl rfl rfl e (by omega) (by rw [← svf_up, hl]; rfl) d_Wo_51 ?_
        refine n_al ok (j := 1) d_Wo_52 rfl ?_
        refine n_get ok (ci := 4) (f := 3) (j := 9) rfl (by decide) (gw_in1 132 rfl rfl) rfl rfl d_Wo_53 ?_
        refine n_il ok (j := 0) d_Wo_56 rfl ?_
        refine n_si ok (v := (-1000)) d_Wo_57 (by decide) ?_
        refine n_ias ok (j := 6) (i := i) (ws' := ((p5, .inl (cA 0, 160, .inl (fun _ => 0))) :: (p4, .inr (1, [.ref p5, .int 0])) :: (p3, .inl (cA 0, 160, .inl (fun _ => 0))) :: (p2, .inr (1, [.ref p3, .int 0])) :: (p1, .inr (0, [.ref p2, .int 0])) :: (p0, .inr (3, [.ref p1, .ref p4, .int 0, .int 0, .int 0, .int (-1000), .int (-1000), .int (-1000), .int (-1000)])) :: (q3, .inl (cA 0, 5, .inl (fil (i + 1) (-1000)))) :: (q2, .inl (cA 0, 25, .inl (fil 0 1))) :: (q1, .inl (cA 2, 5, .inr (.inr (.inr (.inr (svf (l ++ [(p0, p1, p2, p3, p4, p5)]))))))) :: (h0, .inr (4, [.int x, .ref q1, .ref q2, .ref q3, .null, .null, .null, .null, .null, .int 0, .int 0, .int 0])) :: SV cA l)) rfl rfl e (by omega) (by rw [← fil_up i (-1000)]; rfl) d_Wo_60 ?_
        refine n_inc ok (j := 0) (v := nI (i + 1)) (ls' := [(2, .int (nI (i + 1))), (0, .ref h0), (1, .int x)]) d_Wo_61 rfl (by rw [← nI_1]; rfl) (by decide) rfl ?_
        refine n_go ok (t := 34) d_Wo_64 (by decide) ?_
        refine n_perm (ws' := ((q3, .inl (cA 0, 5, .inl (fil (i + 1) (-1000)))) :: (q2, .inl (cA 0, 25, .inl (fil 0 1))) :: (q1, .inl (cA 2, 5, .inr (.inr (.inr (.inr (svf (l ++ [(p0, p1, p2, p3, p4, p5)]))))))) :: (h0, .inr (4, [.int x, .ref q1, .ref q2, .ref q3, .null, .null, .null, .null, .null, .int 0, .int 0, .int 0])) :: SV cA (l ++ [(p0, p1, p2, p3, p4, p5)]))) ?_ (n_cnt (k := 3 + 6 * (i + 1)) (n := 35 + 335 * (i + 1)) (by show 3 + 6 * i + 1 + 5 = _; omega) (by show 35 + 335 * i + 9 + 326 = _; omega) (ih (i + 1) (l ++ [(p0, p1, p2, p3, p4, p5)]) (by omega) (by omega) (by simp [hl])))
        rw [SV_app]
        exact n_pm [(p5, .inl (cA 0, 160, .inl (fun _ => 0))), (p4, .inr (1, [.ref p5, .int 0])), (p3, .inl (cA 0, 160, .inl (fun _ => 0))), (p2, .inr (1, [.ref p3, .int 0])), (p1, .inr (0, [.ref p2, .int 0])), (p0, .inr (3, [.ref p1, .ref p4, .int 0, .int 0, .int 0, .int (-1000), .int (-1000), .int (-1000), .int (-1000)]))] [(q3, .inl (cA 0, 5, .inl (fil (i + 1) (-1000)))), (q2, .inl (cA 0, 25, .inl (fil 0 1))), (q1, .inl (cA 2, 5, .inr (.inr (.inr (.inr (svf (l ++ [(p0, p1, p2, p3, p4, p5)]))))))), (h0, .inr (4, [.int x, .ref q1, .ref q2, .ref q3, .null, .null, .null, .null, .null, .int 0, .int 0, .int 0]))] (SV cA l)
  refine n_ic ok (v := 0) d_Wo_32 (by decide) ?_
  refine n_is ok (ls' := [(2, .int 0), (0, .ref h0), (1, .int x)]) d_Wo_33 (by decide) rfl ?_
  have e0 : ∀ v : Int32, (fun _ : Nat => (0 : Int32)) = fil 0 v := fil_0
  have e1 : (fun _ : Nat => (none : Option Nat)) = svf [] := by funext j; rfl
  have lp := lp1 6 0 [] (by omega) (by omega) rfl
  rw [← e0, ← e0, ← e1] at lp
  exact n_cnt rfl rfl lp
