def mx (a b : Int32) : Int32 := if a < b then b else a
def c_ac (M : zM) (s v : Nat) : Bool := c_re M s v && decide (¬ M.1 (3, 0, s) 7 < M.1 (3, 0, v) 4)
def c_e1 (s : Nat) (t e : Int32) (v : Nat) (X : zM × Int32) : zM × Int32 :=
  if c_an X.1 s v (c_too X.1 s v t) true = 2 then (zz_set (zz_set X.1 (11, 0, 0) v (c_an X.1 s v (c_too X.1 s v t) true)) (3, 0, s) 4 (mx (X.1.1 (3, 0, s) 4) (X.1.1 (3, 0, v) 4)), X.2)
  else if c_an X.1 s v (c_too X.1 s v t) true = 0 then (se_pp (zz_set (zz_set X.1 (11, 0, 0) v (c_an X.1 s v (c_too X.1 s v t) true)) (3, 0, v) 4 (mx (X.1.1 (3, 0, v) 4) t)) 0 v (nI s) e, X.2 + 1)
  else (zz_set X.1 (11, 0, 0) v (c_an X.1 s v (c_too X.1 s v t) true), X.2)
def c_m0 (M : zM) (s : Nat) : zM := zz_set M (3, 0, s) 4 (M.1 (3, 0, s) 4 + 1)
def c_eX (M : zM) (s : Nat) (d : Int32) : zM × Int32 := zz_it (c_e1 s (M.1 (3, 0, s) 4 + 1) (c_rd (c_m0 M s) s + d)) 5 (c_m0 M s, 0)
def c_el (M : zM) (s : Nat) (d : Int32) : Int32 × zM :=
  if (c_eX M s d).2 < 3 then (-10 - (c_eX M s d).2, se_pl (c_eX M s d).1 0 s (-1000) (-1000)) else (M.1 (3, 0, s) 4 + 1, se_pl (c_eX M s d).1 0 s (M.1 (3, 0, s) 4 + 1) (c_rd (c_m0 M s) s + d))
def c_pa (M : zM) (s v : Nat) : Int32 := c_an M s v (decide (M.1 (3, 0, s) 7 < M.1 (3, 0, v) 4)) (!decide (M.1 (3, 0, v) 5 = nI s))
def c_p1 (s : Nat) (e : Int32) (v : Nat) (X : zM × Int32) : zM × Int32 :=
  if c_pa X.1 s v = 0 then (se_pp (zz_set (zz_set X.1 (11, 0, 0) v (c_pa X.1 s v)) (3, 0, v) 4 (X.1.1 (3, 0, s) 7)) 0 v (nI s) (if X.1.1 (3, 0, v) 5 = nI s then mx e (X.1.1 (3, 0, v) 6) else e), X.2 + 1)
  else (zz_set X.1 (11, 0, 0) v (c_pa X.1 s v), X.2)
def c_pX (M : zM) (s : Nat) (d : Int32) : zM × Int32 := zz_it (c_p1 s (c_rd M s + d)) 5 (M, 0)
def c_pr (M : zM) (s : Nat) (d : Int32) : Int32 × zM :=
  if (c_pX M s d).2 < 3 then (-10 - (c_pX M s d).2, (c_pX M s d).1) else (mx ((c_pX M s d).1.1 (3, 0, s) 8) (c_rd M s + d), zz_set (c_pX M s d).1 (3, 0, s) 8 (mx ((c_pX M s d).1.1 (3, 0, s) 8) (c_rd M s + d)))
def c_a1 (s v : Nat) (X : zM × Int32) : zM × Int32 := if c_re X.1 s v = true ∧ X.1.1 (3, 0, v) 5 = nI s then (se_pp X.1 0 v (-1000) (-1000), X.2 + 1) else X
def c_ab (M : zM) (s : Nat) : zM × Int32 := zz_it (c_a1 s) 5 (se_pl M 0 s (-1000) (-1000), 0)
def c_sh (M : zM) (s v : Nat) (cm : Int32) : zM := zz_set (zz_set (ro_copy M 0 v 0 s (rn M 0 s)) (3, 0, v) 4 (M.1 (3, 0, s) 7)) (0, 0, v) 1 (mx (M.1 (0, 0, v) 1) cm)
def c_ca0 (M : zM) (s : Nat) : zM := if M.1 (0, 0, 5) 1 < M.1 (1, 0, s) 1 then lo_copy (zz_set M (0, 0, s) 1 (M.1 (1, 0, s) 1)) 0 5 0 s (rn M 0 s) else zz_set M (0, 0, s) 1 (M.1 (1, 0, s) 1)
def c_ca (M : zM) (s : Nat) : zM := ro_add (c_ca0 M s) 0 (6 + s) (rn M 0 (6 + s)) (nI s) (M.1 (1, 0, s) 1 - 1) (ro_get M 0 s (M.1 (1, 0, s) 1 - 1) 3) (-1000)
def c_w1 (s : Nat) (cb : Int32) (v : Nat) (X : zM × Int32) : zM × Int32 := if ¬ v = s ∧ c_ac X.1 s v = true then (c_sh X.1 s v cb, X.2 + 1) else X
def c_wX (M : zM) (s : Nat) (key val : Int32) : zM × Int32 := zz_it (c_w1 s (M.1 (0, 0, s) 1)) 5 (lo_app M 0 s (rn M 0 s) (M.1 (3, 0, s) 7) key val (c_la M s), 1)
def c_wr (M : zM) (s : Nat) (key val : Int32) : Int32 × zM :=
  if c_ho M s = false then (-1002, M) else if zz_rl s < (rn M 0 s + 1) * 4 then (-1003, M) else
  if (c_wX M s key val).2 < 3 then (-10 - (c_wX M s key val).2, (c_wX M s key val).1) else ((c_wX M s key val).1.1 (1, 0, s) 1 - 1, c_ca (c_wX M s key val).1 s)
def c_gone (cr : Int32) (s v : Nat) : Bool := decide (cr >>> (nI s &&& 31) &&& 1 = 1) || decide (cr >>> (nI v &&& 31) &&& 1 = 1)
def c_tg (M : zM) (cr : Int32) (s v : Nat) : Int32 := if c_gone cr s v = true ∨ c_re M s v = false ∨ c_too M s v (M.1 (3, 0, s) 4 + 1) = true ∨ c_rec M s v = false then -1000 else c_tb M s v
def c_ga (M : zM) (cr : Int32) (s : Nat) (ti : Int32) : Nat → Int32
  | 0 => 0
  | k + 1 => if ¬ c_tg M cr s k = -1000 ∧ ¬ ti < c_tg M cr s k then c_ga M cr s ti k + 1 else c_ga M cr s ti k
def c_tl (M : zM) (cr : Int32) (s : Nat) : Nat → Int32
  | 0 => -1000
  | k + 1 => if ¬ c_tg M cr s k = -1000 ∧ (c_tl M cr s k = -1000 ∨ c_tg M cr s k < c_tl M cr s k) ∧ ¬ c_ga M cr s (c_tg M cr s k) 5 < 3 then c_tg M cr s k else c_tl M cr s k
def c_sw (M : zM) (cr : Int32) : Nat → Nat → Bool
  | 0, _ => true
  | f + 1, s => if c_tl M cr s 5 = -1000 then c_sw M cr f (s + 1) else false
def c_br (M : zM) (k : Nat) : Int32 × zM :=
  if M.1 (7, 0, 12) (4 * k) < 0 ∨ 3 < M.1 (7, 0, 12) (4 * k) ∨ M.1 (7, 0, 12) (4 * k + 2) < M.1 (13, 0, 0) (zz_ix (M.1 (7, 0, 12) (4 * k))) then (0, zz_set (zz_set M (7, 0, 12) (4 * k + 3) 1) (4, 0, 0) 11 (M.1 (4, 0, 0) 11 + 1))
  else (1, zz_set (zz_set (zz_set M (7, 0, 12) (4 * k + 3) 1) (12, 0, 0) (zz_ix (M.1 (7, 0, 12) (4 * k))) (M.1 (7, 0, 12) (4 * k + 1))) (13, 0, 0) (zz_ix (M.1 (7, 0, 12) (4 * k))) (M.1 (7, 0, 12) (4 * k + 2)))
theorem zz_rl5 {s : Nat} (hs : s < 6) : zz_rl s = 160 := by unfold zz_rl; rw [if_neg (by omega), if_neg (by omega)]
theorem wr_pp {M : zM} {w s w2 : Nat} {a b : Int32} (h : wr M w2) : wr (se_pp M w s a b) w2 := wr_set rfl (wr_set rfl h)
theorem wr_pl {M : zM} {w s w2 : Nat} {a b : Int32} (h : wr M w2) : wr (se_pl M w s a b) w2 := wr_set rfl (wr_set rfl h)
theorem c_e1_wr {s v : Nat} {t e : Int32} {X : zM × Int32} (h : wr X.1 0) : wr (c_e1 s t e v X).1 0 := by
  unfold c_e1
  split
  · exact wr_set rfl (wr_set rfl h)
  · split
    · exact wr_pp (wr_set rfl (wr_set rfl h))
    · exact wr_set rfl h
theorem c_p1_wr {s v : Nat} {e : Int32} {X : zM × Int32} (h : wr X.1 0) : wr (c_p1 s e v X).1 0 := by
  unfold c_p1
  split
  · exact wr_pp (wr_set rfl (wr_set rfl h))
  · exact wr_set rfl h
theorem c_a1_wr {s v : Nat} {X : zM × Int32} (h : wr X.1 0) : wr (c_a1 s v X).1 0 := by
  unfold c_a1
  split
  · exact wr_pp h
  · exact h
theorem c_sh_wr {M : zM} {s v : Nat} {cm : Int32} (hs : s < 5) (hv : v < 5) (h : wr M 0) : wr (c_sh M s v cm) 0 :=
  wr_set rfl (wr_set rfl (wr_copy (by have h1 := (h s (by omega)).2; rw [zz_rl5 (by omega)] at h1 ⊢; exact h1) h))
theorem zz_rlo {s : Nat} (hs : s < 5) : zz_rl (6 + s) = 160 := by unfold zz_rl; rw [if_neg (by omega), if_neg (by omega)]
theorem zz_gss (M : zM) (r : zR) (k : Nat) (v : Int32) : (zz_set M r k v).1 r k = v := by simp [zz_gs]
theorem sp_Wo_giveDue {G : zG} {post : Option zV → zM → Prop} {M : zM} {s : Nat} {a : Int32} (hG : zz_go G) (ea : a = nI s) (hs : s < 5) (hw : wr M 0) (h : post none (c_gd M s)) : zz_T G md_Wo_giveDue [.inr (.inr (4, 0, 0)), .inl a] M post := by
  refine en_Wo_giveDue hG rfl (fun Z ok => ?_)
  subst ea
  have es := ni_e5 hs
  have hn := hw (6 + s) (by omega)
  have hj := zz_rlo hs
  unfold c_gd at h
  have lp12 : ∀ (f k : Nat), rn M 0 (6 + s) - k < f → k ≤ rn M 0 (6 + s) → ∀ (x3 : Int32) (M' : zM), x3 = nI k → M'.1 (1, 0, 6 + s) 1 = nI (rn M 0 (6 + s)) → c_gl s (rn M 0 (6 + s)) 0 M = c_gl s (rn M 0 (6 + s) - k) k M' → wr M' 0 → zz_W G Z md_Wo_giveDue post 12 [(3, .inl x3), (2, .inr (.inr (1, 0, 6 + s))), (1, .inl (nI s)), (0, .inr (.inr (4, 0, 0)))] [] M' := by
    intro f
    induction f with
    | zero => intro k hf; exact absurd hf (Nat.not_lt_zero _)
    | succ f ih => ?_
    intro k hf hk x3 M' e3 hz' hgl hw'
    subst e3
    refine zz_b ok rfl trivial rfl (fun h17 => ?_) (fun h17 => ?_)
    · skip
      try simp only [es] at h17 ⊢
      rw [hz', ni_ltn (by omega) (by omega)] at h17
      refine zz_cV ok rfl trivial rfl lk_Wo_92 ca_Ro_get rfl rfl rfl rfl rfl (sp_Ro_get hG hz' hn.2 (c := 2) rfl (by decide) ?_)
      try simp only [es]
      refine zz_cV ok rfl trivial rfl lk_Wo_96 ca_Wo_earliest rfl rfl rfl rfl rfl (sp_Wo_earliest hG rfl hs ?_)
      try simp only [es]
      refine zz_b ok rfl trivial rfl (fun h31 => ?_) (fun h31 => ?_)
      · skip
        try simp only [es] at h31 ⊢
        rw [ro_get_in hz' hn.2 rfl (by omega)] at h31
        refine zz_cV ok rfl trivial rfl lk_Wo_92 ca_Ro_get rfl rfl rfl rfl rfl (sp_Ro_get hG hz' hn.2 (c := 1) rfl (by decide) ?_)
        try simp only [es]
        refine zz_cV ok rfl trivial rfl lk_Wo_92 ca_Ro_get rfl rfl rfl rfl rfl (sp_Ro_get hG hz' hn.2 (c := 2) rfl (by decide) ?_)
        try simp only [es]
        refine zz_cV ok rfl trivial rfl lk_Wo_99 ca_Wo_keepGiven rfl rfl rfl rfl rfl (sp_Wo_keepGiven hG hw' ?_)
        try simp only [es]
        refine zz_g ok rfl trivial ?_
        refine zz_pm [3, 2, 1, 0] rfl ?_
        exact ih (k + 1) (by omega) (by omega) _ _ (nI_1 k) (by rw [c_kg_sz (by omega)]; exact hz') (by rw [hgl, show rn M 0 (6 + s) - k = (rn M 0 (6 + s) - (k + 1)) + 1 by omega, c_gl, if_pos h31, ro_get_in hz' hn.2 rfl (by omega), ro_get_in hz' hn.2 rfl (by omega)]) (c_kg_wr hw')
      · skip
        try simp only [es] at h31 ⊢
        rw [ro_get_in hz' hn.2 rfl (by omega)] at h31
        have hX : c_gl s (rn M 0 (6 + s)) 0 M = (M', k) := by
          rw [hgl, show rn M 0 (6 + s) - k = (rn M 0 (6 + s) - (k + 1)) + 1 by omega, c_gl, if_neg h31]
        refine zz_cV ok rfl trivial rfl lk_Wo_103 ca_Ro_dropFirst rfl rfl rfl rfl rfl (sp_Ro_dropFirst hG hz' hn.2 (k := k) rfl (by omega) ?_)
        try simp only [es]
        refine zz_v ok rfl trivial rfl rfl ?_
        exact zz_pq h rfl (by rw [hX])
    · skip
      try simp only [es] at h17 ⊢
      rw [hz', ni_ltn (by omega) (by omega)] at h17
      have hX : c_gl s (rn M 0 (6 + s)) 0 M = (M', k) := by
        rw [hgl, show rn M 0 (6 + s) - k = 0 by omega]; rfl
      refine zz_cV ok rfl trivial rfl lk_Wo_103 ca_Ro_dropFirst rfl rfl rfl rfl rfl (sp_Ro_dropFirst hG hz' hn.2 (k := k) rfl (by omega) ?_)
      try simp only [es]
      refine zz_v ok rfl trivial rfl rfl ?_
      exact zz_pq h rfl (by rw [hX])
  refine zz_g ok rfl (by and_intros <;> first | trivial | exact ni_5 hs) ?_
  refine zz_pm [3, 2, 1, 0] rfl ?_
  simp only [es]
  exact lp12 (rn M 0 (6 + s) + 1) 0 (by omega) (by omega) _ _ rfl hn.1 rfl hw
theorem sp_Wo_tick {G : zG} {post : Option zV → zM → Prop} {M : zM} (hG : zz_go G) (hw : wr M 0) (h : post none (c_tk M)) : zz_T G md_Wo_tick [.inr (.inr (4, 0, 0))] M post := by
  refine en_Wo_tick hG rfl (fun Z ok => ?_)
  unfold c_tk at h
  have lp12 : ∀ (f k : Nat), 5 - k < f → k ≤ 5 → ∀ (x1 : Int32) (M' : zM), x1 = nI k → M' = zz_it c_tk1 k (zz_set M (4, 0, 0) 9 (M.1 (4, 0, 0) 9 + 1)) → wr M' 0 → zz_W G Z md_Wo_tick post 12 [(1, .inl x1), (0, .inr (.inr (4, 0, 0)))] [] M' := by
    intro f
    induction f with
    | zero => intro k hf; exact absurd hf (Nat.not_lt_zero _)
    | succ f ih => ?_
    intro k hf hk x1 M' e1 eM hw'
    subst e1
    refine zz_b ok rfl trivial rfl (fun h14 => ?_) (fun h14 => ?_)
    · skip
      rw [ni_lit, ni_ltn (by omega) (by decide)] at h14
      refine zz_b ok rfl ⟨ni_5 (by omega), trivial⟩ rfl (fun h26 => ?_) (fun h26 => ?_)
      · skip
        rw [zz_ixn (by omega)] at h26
        refine zz_cV ok rfl trivial rfl lk_Wo_83 ca_Wo_giveDue rfl rfl rfl rfl rfl (sp_Wo_giveDue hG rfl (by omega) hw' ?_)
        refine zz_g ok rfl trivial ?_
        refine zz_pm [1, 0] rfl ?_
        exact ih (k + 1) (by omega) (by omega) _ _ (nI_1 k) (by rw [zz_it, ← eM, c_tk1, if_pos h26]) (c_gd_wr (by omega) hw')
      · skip
        rw [zz_ixn (by omega)] at h26
        refine zz_g ok rfl trivial ?_
        refine zz_pm [1, 0] rfl ?_
        exact ih (k + 1) (by omega) (by omega) _ _ (nI_1 k) (by rw [zz_it, ← eM, c_tk1, if_neg h26]) hw'
    · skip
      rw [ni_lit, ni_ltn (by omega) (by decide)] at h14
      have hk5 : k = 5 := by omega
      subst hk5
      refine zz_v ok rfl trivial rfl rfl ?_
      exact zz_pq h rfl eM
  refine zz_g ok rfl trivial ?_
  refine zz_pm [1, 0] rfl ?_
  exact lp12 6 0 (by omega) (by omega) _ _ rfl rfl (wr_set rfl hw)
theorem sp_Wo_isTooOldFor {G : zG} {post : Option zV → zM → Prop} {M : zM} {s v : Nat} {a b : Int32} (hG : zz_go G) (ea : a = nI s) (hs : s < 5) (eb : b = nI v) (hv : v < 5) {t : Int32} (h : post (some (.inl (zz_bi (c_too M s v t)))) M) : zz_T G md_Wo_isTooOldFor [.inr (.inr (4, 0, 0)), .inl a, .inl b, .inl t] M post := by
  refine en_Wo_isTooOldFor hG rfl (fun Z ok => ?_)
  subst ea; subst eb
  have es := ni_e5 hs
  have ev := ni_e5 hv
  refine zz_b ok rfl trivial rfl (fun h2 => ?_) (fun h2 => ?_)
  · skip
    try simp only [es, ev] at h2 ⊢
    rw [ni_eqn (by omega) (by omega)] at h2
    refine zz_z ok rfl trivial rfl rfl (by first | exact Or.inl rfl | exact Or.inr rfl | exact zz_bi01 _) ?_
    exact zz_pq h (by simp [c_too, zz_bi, h2]) rfl
  · skip
    try simp only [es, ev] at h2 ⊢
    rw [ni_eqn (by omega) (by omega)] at h2
    refine zz_b ok rfl (by and_intros <;> first | trivial | exact ni_5 hs | exact ni_5 hv) rfl (fun h15 => ?_) (fun h15 => ?_)
    · skip
      try simp only [es, ev] at h15 ⊢
      refine zz_z ok rfl trivial rfl rfl (by first | exact Or.inl rfl | exact Or.inr rfl | exact zz_bi01 _) ?_
      exact zz_pq h (by simp [c_too, zz_bi, h2, h15]) rfl
    · skip
      try simp only [es, ev] at h15 ⊢
      refine zz_z ok rfl trivial rfl rfl (by first | exact Or.inl rfl | exact Or.inr rfl | exact zz_bi01 _) ?_
      exact zz_pq h (by simp [c_too, zz_bi, h2, h15]) rfl
theorem sp_Wo_ticksBound {G : zG} {post : Option zV → zM → Prop} {M : zM} {s v : Nat} {a b : Int32} (hG : zz_go G) (ea : a = nI s) (hs : s < 5) (eb : b = nI v) (hv : v < 5) (h : post (some (.inl (c_tb M s v))) M) : zz_T G md_Wo_ticksBound [.inr (.inr (4, 0, 0)), .inl a, .inl b] M post := by
  refine en_Wo_ticksBound hG rfl (fun Z ok => ?_)
  subst ea; subst eb
  have es := ni_e5 hs
  have ev := ni_e5 hv
  refine zz_b ok rfl (by and_intros <;> first | trivial | exact ni_5 hs | exact ni_5 hv) rfl (fun h14 => ?_) (fun h14 => ?_)
  · skip
    try simp only [es, ev] at h14 ⊢
    refine zz_i ok rfl trivial rfl rfl ?_
    exact zz_pq h (by simp [c_tb, h14]) rfl
  · skip
    try simp only [es, ev] at h14 ⊢
    refine zz_b ok rfl trivial rfl (fun h22 => ?_) (fun h22 => ?_)
    · skip
      try simp only [es, ev] at h22 ⊢
      refine zz_i ok rfl trivial rfl rfl ?_
      exact zz_pq h (by simp [c_tb, h14, h22]) rfl
    · skip
      try simp only [es, ev] at h22 ⊢
      refine zz_cV ok rfl trivial rfl lk_Wo_96 ca_Wo_earliest rfl rfl rfl rfl rfl (sp_Wo_earliest hG rfl hv ?_)
      try simp only [es, ev]
      refine zz_i ok rfl trivial rfl rfl ?_
      exact zz_pq h (by simp [c_tb, h14, h22]) rfl
theorem sp_Wo_answer {G : zG} {post : Option zV → zM → Prop} {M : zM} {s v : Nat} {a b : Int32} (hG : zz_go G) (ea : a = nI s) (hs : s < 5) (eb : b = nI v) (hv : v < 5) {tr lc : Bool} {t1 l1 : Int32} (et : t1 = zz_bi tr) (el : l1 = zz_bi lc) (hw : wr M 0) (h : post (some (.inl (c_an M s v tr lc))) M) : zz_T G md_Wo_answer [.inr (.inr (4, 0, 0)), .inl a, .inl b, .inl t1, .inl l1] M post := by
  refine en_Wo_answer hG rfl (fun Z ok => ?_)
  subst ea; subst eb
  have es := ni_e5 hs
  have ev := ni_e5 hv
  subst et; subst el
  have hns := hw s (by omega)
  have hnv := hw v (by omega)
  refine zz_cV ok rfl trivial rfl lk_Wo_146 ca_Wo_isReached rfl rfl rfl rfl rfl (sp_Wo_isReached hG rfl hs rfl hv ?_)
  try simp only [es, ev]
  refine zz_b ok rfl trivial rfl (fun h6 => ?_) (fun h6 => ?_)
  · skip
    try simp only [es, ev] at h6 ⊢
    try simp only [zz_bi0, Bool.not_eq_false] at h6
    refine zz_i ok rfl trivial rfl rfl ?_
    exact zz_pq h (by simp [c_an, c_rec, h6]) rfl
  · skip
    try simp only [es, ev] at h6 ⊢
    try simp only [zz_bi0, Bool.not_eq_false] at h6
    refine zz_b ok rfl trivial rfl (fun h12 => ?_) (fun h12 => ?_)
    · skip
      try simp only [es, ev] at h12 ⊢
      try simp only [zz_bi0, Bool.not_eq_false] at h12
      refine zz_cV ok rfl trivial rfl lk_Wo_150 ca_Wo_ticksBound rfl rfl rfl rfl rfl (sp_Wo_ticksBound hG rfl hs rfl hv ?_)
      try simp only [es, ev]
      refine zz_b ok rfl trivial rfl (fun h23 => ?_) (fun h23 => ?_)
      · skip
        try simp only [es, ev] at h23 ⊢
        try simp only [zz_bi0, Bool.not_eq_false] at h23
        refine zz_i ok rfl trivial rfl rfl ?_
        exact zz_pq h (by simp [c_an, c_rec, h6, h12, h23]) rfl
      · skip
        try simp only [es, ev] at h23 ⊢
        try simp only [zz_bi0, Bool.not_eq_false] at h23
        refine zz_b ok rfl trivial rfl (fun h30 => ?_) (fun h30 => ?_)
        · skip
          try simp only [es, ev] at h30 ⊢
          try simp only [zz_bi0, Bool.not_eq_false] at h30
          refine zz_i ok rfl trivial rfl rfl ?_
          exact zz_pq h (by simp [c_an, c_rec, h6, h12, h23, h30]) rfl
        · skip
          try simp only [es, ev] at h30 ⊢
          try simp only [zz_bi0, Bool.not_eq_false] at h30
          refine zz_cV ok rfl (by and_intros <;> first | trivial | exact ni_5 hs | exact ni_5 hv) rfl lk_Wo_156 ca_Lo_isAtLeastAsRecentAs rfl rfl rfl rfl rfl (sp_Lo_isAtLeastAsRecentAs (n := rn M 0 s) (n2 := rn M 0 v) hG (by rw [es]; exact hns.1) (by rw [es]; exact hns.2) (by rw [ev]; exact hnv.1) (by rw [ev]; exact hnv.2) ?_)
          try simp only [es, ev]
          refine zz_b ok rfl trivial rfl (fun h54 => ?_) (fun h54 => ?_)
          · skip
            try simp only [es, ev] at h54 ⊢
            try simp only [zz_bi0, Bool.not_eq_false] at h54
            refine zz_i ok rfl trivial rfl rfl ?_
            exact zz_pq h (by simp [c_an, c_rec, h6, h12, h23, h30, h54]) rfl
          · skip
            try simp only [es, ev] at h54 ⊢
            try simp only [zz_bi0, Bool.not_eq_false] at h54
            refine zz_i ok rfl trivial rfl rfl ?_
            exact zz_pq h (by simp [c_an, c_rec, h6, h12, h23, h30, h54]) rfl
    · skip
      try simp only [es, ev] at h12 ⊢
      try simp only [zz_bi0, Bool.not_eq_false] at h12
      refine zz_i ok rfl trivial rfl rfl ?_
      exact zz_pq h (by simp [c_an, c_rec, h6, h12]) rfl
theorem sp_Wo_accepts {G : zG} {post : Option zV → zM → Prop} {M : zM} {s v : Nat} {a b : Int32} (hG : zz_go G) (ea : a = nI s) (hs : s < 5) (eb : b = nI v) (hv : v < 5) (h : post (some (.inl (zz_bi (c_ac M s v)))) M) : zz_T G md_Wo_accepts [.inr (.inr (4, 0, 0)), .inl a, .inl b] M post := by
  refine en_Wo_accepts hG rfl (fun Z ok => ?_)
  subst ea; subst eb
  have es := ni_e5 hs
  have ev := ni_e5 hv
  refine zz_cV ok rfl trivial rfl lk_Wo_146 ca_Wo_isReached rfl rfl rfl rfl rfl (sp_Wo_isReached hG rfl hs rfl hv ?_)
  try simp only [es, ev]
  refine zz_b ok rfl trivial rfl (fun h6 => ?_) (fun h6 => ?_)
  · skip
    try simp only [es, ev] at h6 ⊢
    try simp only [zz_bi0, Bool.not_eq_false] at h6
    refine zz_z ok rfl trivial rfl rfl (by first | exact Or.inl rfl | exact Or.inr rfl | exact zz_bi01 _) ?_
    exact zz_pq h (by simp [c_ac, zz_bi, h6]) rfl
  · skip
    try simp only [es, ev] at h6 ⊢
    try simp only [zz_bi0, Bool.not_eq_false] at h6
    refine zz_b ok rfl (by and_intros <;> first | trivial | exact ni_5 hs | exact ni_5 hv) rfl (fun h27 => ?_) (fun h27 => ?_)
    · skip
      try simp only [es, ev] at h27 ⊢
      try simp only [zz_bi0, Bool.not_eq_false] at h27
      refine zz_z ok rfl trivial rfl rfl (by first | exact Or.inl rfl | exact Or.inr rfl | exact zz_bi01 _) ?_
      exact zz_pq h (by simp [c_ac, zz_bi, h6, h27]) rfl
    · skip
      try simp only [es, ev] at h27 ⊢
      try simp only [zz_bi0, Bool.not_eq_false] at h27
      refine zz_z ok rfl trivial rfl rfl (by first | exact Or.inl rfl | exact Or.inr rfl | exact zz_bi01 _) ?_
      exact zz_pq h (by simp [c_ac, zz_bi, h6, h27]) rfl
theorem sp_Wo_elect {G : zG} {post : Option zV → zM → Prop} {M : zM} {s : Nat} {a : Int32} (hG : zz_go G) (ea : a = nI s) (hs : s < 5) {d : Int32} (hw : wr M 0) (h : post (some (.inl (c_el M s d).1)) (c_el M s d).2) : zz_T G md_Wo_elect [.inr (.inr (4, 0, 0)), .inl a, .inl d] M post := by
  refine en_Wo_elect hG rfl (fun Z ok => ?_)
  subst ea
  have es := ni_e5 hs
  unfold c_el at h
  refine zz_cV ok rfl (by and_intros <;> first | trivial | exact ni_5 hs) rfl lk_Wo_117 ca_Wo_reading rfl rfl rfl rfl rfl (sp_Wo_reading hG rfl hs ?_)
  try simp only [es]
  have lp38 : ∀ (f k : Nat), 5 - k < f → k ≤ 5 → ∀ (x7 x6 x5 x4 : Int32) (M' : zM), x7 = nI k → x4 = M.1 (3, 0, s) 4 + 1 → x5 = c_rd (c_m0 M s) s + d → (M', x6) = zz_it (c_e1 s x4 x5) k (c_m0 M s, 0) → wr M' 0 → zz_W G Z md_Wo_elect post 38 [(7, .inl x7), (6, .inl x6), (5, .inl x5), (4, .inl x4), (3, .inr (.inr (3, 0, s))), (2, .inl d), (1, .inl (nI s)), (0, .inr (.inr (4, 0, 0)))] [] M' := by
    intro f
    induction f with
    | zero => intro k hf; exact absurd hf (Nat.not_lt_zero _)
    | succ f ih => ?_
    intro k hf hk x7 x6 x5 x4 M' e7 e4 e5 eX hw'
    subst e7
    refine zz_b ok rfl trivial rfl (fun h41 => ?_) (fun h41 => ?_)
    · skip
      try simp only [es] at h41 ⊢
      rw [ni_lit, ni_ltn (by omega) (by decide)] at h41
      have hk5 : k < 5 := h41
      have ek := ni_e5 hk5
      refine zz_cV ok rfl (by and_intros <;> first | trivial | exact ni_5 hs | exact ni_5 hk5) rfl lk_Wo_120 ca_Wo_isTooOldFor rfl rfl rfl rfl rfl (sp_Wo_isTooOldFor hG rfl hs rfl hk5 ?_)
      try simp only [es]
      try simp only [ek]
      refine zz_cV ok rfl trivial rfl lk_Wo_124 ca_Wo_answer rfl rfl rfl rfl rfl (sp_Wo_answer hG rfl hs rfl hk5 (tr := c_too M' s k x4) (lc := true) rfl rfl hw' ?_)
      try simp only [es]
      try simp only [ek]
      refine zz_b ok rfl (by and_intros <;> first | trivial | exact ni_5 hs | exact ni_5 hk5) rfl (fun h85 => ?_) (fun h85 => ?_)
      · skip
        try simp only [es] at h85 ⊢
        try simp only [ek] at h85 ⊢
        refine zz_g ok rfl trivial ?_
        refine zz_pm [7, 6, 5, 4, 3, 2, 1, 0] rfl ?_
        exact ih (k + 1) (by omega) (by omega) _ _ _ _ _ (nI_1 k) e4 e5 (by rw [zz_it, ← eX, c_e1]; simp only [zz_gss] at h85; rw [if_pos h85]; simp [zz_gs, mx, ek]) (by exact wr_set rfl (wr_set rfl hw'))
      · skip
        try simp only [es] at h85 ⊢
        try simp only [ek] at h85 ⊢
        refine zz_b ok rfl (by and_intros <;> first | trivial | exact ni_5 hs | exact ni_5 hk5) rfl (fun h114 => ?_) (fun h114 => ?_)
        · skip
          try simp only [es] at h114 ⊢
          try simp only [ek] at h114 ⊢
          refine zz_cV ok rfl trivial rfl lk_Wo_133 ca_Se_putPromise rfl rfl rfl rfl rfl (sp_Se_putPromise hG ?_)
          try simp only [es]
          refine zz_g ok rfl trivial ?_
          refine zz_pm [7, 6, 5, 4, 3, 2, 1, 0] rfl ?_
          exact ih (k + 1) (by omega) (by omega) _ _ _ _ _ (nI_1 k) e4 e5 (by rw [zz_it, ← eX, c_e1]; simp only [zz_gss] at h85; simp only [zz_gss] at h114; rw [if_neg h85, if_pos h114]; simp [zz_gs, mx, ek]) (by exact wr_pp (wr_set rfl (wr_set rfl hw')))
        · skip
          try simp only [es] at h114 ⊢
          try simp only [ek] at h114 ⊢
          refine zz_g ok rfl trivial ?_
          refine zz_pm [7, 6, 5, 4, 3, 2, 1, 0] rfl ?_
          exact ih (k + 1) (by omega) (by omega) _ _ _ _ _ (nI_1 k) e4 e5 (by rw [zz_it, ← eX, c_e1]; simp only [zz_gss] at h85; simp only [zz_gss] at h114; rw [if_neg h85, if_neg h114]) (by exact wr_set rfl hw')
    · skip
      try simp only [es] at h41 ⊢
      rw [ni_lit, ni_ltn (by omega) (by decide)] at h41
      have hk6 : k = 5 := by omega
      subst hk6
      subst e4; subst e5
      have eX1 : c_eX M s d = (M', x6) := eX.symm
      rw [eX1] at h
      dsimp only at h
      refine zz_b ok rfl trivial rfl (fun h152 => ?_) (fun h152 => ?_)
      · skip
        try simp only [es] at h152 ⊢
        refine zz_cV ok rfl trivial rfl lk_Wo_137 ca_Se_putLease rfl rfl rfl rfl rfl (sp_Se_putLease hG ?_)
        try simp only [es]
        refine zz_i ok rfl trivial rfl rfl ?_
        rw [if_pos h152] at h
        exact h
      · skip
        try simp only [es] at h152 ⊢
        refine zz_cV ok rfl trivial rfl lk_Wo_137 ca_Se_putLease rfl rfl rfl rfl rfl (sp_Se_putLease hG ?_)
        try simp only [es]
        refine zz_i ok rfl trivial rfl rfl ?_
        rw [if_neg h152] at h
        exact h
  refine zz_g ok rfl trivial ?_
  refine zz_pm [7, 6, 5, 4, 3, 2, 1, 0] rfl ?_
  try simp only [es]
  exact lp38 6 0 (by omega) (by omega) _ _ _ _ _ rfl (by simp [zz_gs]) rfl rfl (wr_set rfl hw)
theorem sp_Wo_abandon {G : zG} {post : Option zV → zM → Prop} {M : zM} {s : Nat} {a : Int32} (hG : zz_go G) (ea : a = nI s) (hs : s < 5) (h : post (some (.inl (c_ab M s).2)) (c_ab M s).1) : zz_T G md_Wo_abandon [.inr (.inr (4, 0, 0)), .inl a] M post := by
  refine en_Wo_abandon hG rfl (fun Z ok => ?_)
  subst ea
  have es := ni_e5 hs
  refine zz_cV ok rfl (by and_intros <;> first | trivial | exact ni_5 hs) rfl lk_Wo_137 ca_Se_putLease rfl rfl rfl rfl rfl (sp_Se_putLease hG ?_)
  try simp only [es]
  have lp19 : ∀ (f k : Nat), 5 - k < f → k ≤ 5 → ∀ (x3 x2 : Int32) (M' : zM), x3 = nI k → (M', x2) = zz_it (c_a1 s) k (se_pl M 0 s (-1000) (-1000), 0) → zz_W G Z md_Wo_abandon post 19 [(3, .inl x3), (2, .inl x2), (1, .inl (nI s)), (0, .inr (.inr (4, 0, 0)))] [] M' := by
    intro f
    induction f with
    | zero => intro k hf; exact absurd hf (Nat.not_lt_zero _)
    | succ f ih => ?_
    intro k hf hk x3 x2 M' e3 eX
    subst e3
    refine zz_b ok rfl trivial rfl (fun h21 => ?_) (fun h21 => ?_)
    · skip
      try simp only [es] at h21 ⊢
      try simp only [zz_bi0, Bool.not_eq_false] at h21
      rw [ni_lit, ni_ltn (by omega) (by decide)] at h21
      have hk5 : k < 5 := h21
      have ek := ni_e5 hk5
      refine zz_cV ok rfl trivial rfl lk_Wo_146 ca_Wo_isReached rfl rfl rfl rfl rfl (sp_Wo_isReached hG rfl hs rfl hk5 ?_)
      try simp only [es]
      refine zz_b ok rfl trivial rfl (fun h30 => ?_) (fun h30 => ?_)
      · skip
        try simp only [es] at h30 ⊢
        try simp only [zz_bi0, Bool.not_eq_false] at h30
        refine zz_g ok rfl trivial ?_
        refine zz_pm [3, 2, 1, 0] rfl ?_
        exact ih (k + 1) (by omega) (by omega) _ _ _ (nI_1 k) (by rw [zz_it, ← eX, c_a1]; rw [if_neg (by simp [h30])])
      · skip
        try simp only [es] at h30 ⊢
        try simp only [zz_bi0, Bool.not_eq_false] at h30
        refine zz_b ok rfl (by and_intros <;> first | trivial | exact ni_5 hs | exact ni_5 hk5) rfl (fun h43 => ?_) (fun h43 => ?_)
        · skip
          try simp only [es] at h43 ⊢
          try simp only [zz_bi0, Bool.not_eq_false] at h43
          try simp only [ek] at h43 ⊢
          refine zz_cV ok rfl (by and_intros <;> first | trivial | exact ni_5 hs | exact ni_5 hk5) rfl lk_Wo_133 ca_Se_putPromise rfl rfl rfl rfl rfl (sp_Se_putPromise hG ?_)
          try simp only [es]
          try simp only [ek]
          refine zz_g ok rfl trivial ?_
          refine zz_pm [3, 2, 1, 0] rfl ?_
          exact ih (k + 1) (by omega) (by omega) _ _ _ (nI_1 k) (by rw [zz_it, ← eX, c_a1]; rw [if_pos ⟨h30, h43⟩])
        · skip
          try simp only [es] at h43 ⊢
          try simp only [zz_bi0, Bool.not_eq_false] at h43
          try simp only [ek] at h43 ⊢
          refine zz_g ok rfl trivial ?_
          refine zz_pm [3, 2, 1, 0] rfl ?_
          exact ih (k + 1) (by omega) (by omega) _ _ _ (nI_1 k) (by rw [zz_it, ← eX, c_a1]; rw [if_neg (fun q => h43 q.2)])
    · skip
      try simp only [es] at h21 ⊢
      try simp only [zz_bi0, Bool.not_eq_false] at h21
      rw [ni_lit, ni_ltn (by omega) (by decide)] at h21
      have hk6 : k = 5 := by omega
      subst hk6
      refine zz_i ok rfl trivial rfl rfl ?_
      have eX1 : c_ab M s = (M', x2) := eX.symm
      rw [eX1] at h
      exact h
  refine zz_g ok rfl trivial ?_
  refine zz_pm [3, 2, 1, 0] rfl ?_
  try simp only [es]
  exact lp19 6 0 (by omega) (by omega) _ _ _ rfl rfl
theorem sp_Wo_prolong {G : zG} {post : Option zV → zM → Prop} {M : zM} {s : Nat} {a : Int32} (hG : zz_go G) (ea : a = nI s) (hs : s < 5) {d : Int32} (hw : wr M 0) (h : post (some (.inl (c_pr M s d).1)) (c_pr M s d).2) : zz_T G md_Wo_prolong [.inr (.inr (4, 0, 0)), .inl a, .inl d] M post := by
  refine en_Wo_prolong hG rfl (fun Z ok => ?_)
  subst ea
  have es := ni_e5 hs
  unfold c_pr at h
  refine zz_cV ok rfl (by and_intros <;> first | trivial | exact ni_5 hs) rfl lk_Wo_117 ca_Wo_reading rfl rfl rfl rfl rfl (sp_Wo_reading hG rfl hs ?_)
  try simp only [es]
  have lp22 : ∀ (f k : Nat), 5 - k < f → k ≤ 5 → ∀ (x6 x5 x4 : Int32) (M' : zM), x6 = nI k → x4 = c_rd M s + d → (M', x5) = zz_it (c_p1 s x4) k (M, 0) → wr M' 0 → zz_W G Z md_Wo_prolong post 22 [(6, .inl x6), (5, .inl x5), (4, .inl x4), (3, .inr (.inr (3, 0, s))), (2, .inl d), (1, .inl (nI s)), (0, .inr (.inr (4, 0, 0)))] [] M' := by
    intro f
    induction f with
    | zero => intro k hf; exact absurd hf (Nat.not_lt_zero _)
    | succ f ih => ?_
    intro k hf hk x6 x5 x4 M' e6 e4 eX hw'
    subst e6
    refine zz_b ok rfl trivial rfl (fun h25 => ?_) (fun h25 => ?_)
    · skip
      try simp only [es] at h25 ⊢
      rw [ni_lit, ni_ltn (by omega) (by decide)] at h25
      have hk5 : k < 5 := h25
      have ek := ni_e5 hk5
      refine zz_b ok rfl (by and_intros <;> first | trivial | exact ni_5 hs | exact ni_5 hk5) rfl (fun h43 => ?_) (fun h43 => ?_)
      · skip
        try simp only [es] at h43 ⊢
        try simp only [ek] at h43 ⊢
        refine zz_b ok rfl trivial rfl (fun h72 => ?_) (fun h72 => ?_)
        · skip
          try simp only [es] at h72 ⊢
          try simp only [ek] at h72 ⊢
          refine zz_b ok rfl trivial rfl (fun h82 => ?_) (fun h82 => ?_)
          · skip
            try simp only [es] at h82 ⊢
            exact absurd h82 (by decide)
          · skip
            try simp only [es] at h82 ⊢
            skip
            refine zz_cV ok rfl trivial rfl lk_Wo_124 ca_Wo_answer rfl rfl rfl rfl rfl (sp_Wo_answer hG rfl hs rfl hk5 (tr := decide (M'.1 (3, 0, s) 7 < M'.1 (3, 0, k) 4)) (lc := !decide (M'.1 (3, 0, k) 5 = nI s)) (by simp [zz_bi, h43, h72]) (by simp [zz_bi, h43]) hw' ?_)
            try simp only [es]
            try simp only [ek]
            refine zz_b ok rfl (by and_intros <;> first | trivial | exact ni_5 hs | exact ni_5 hk5) rfl (fun h101 => ?_) (fun h101 => ?_)
            · skip
              try simp only [es] at h101 ⊢
              try simp only [ek] at h101 ⊢
              refine zz_b ok rfl trivial rfl (fun h118 => ?_) (fun h118 => ?_)
              · skip
                try simp only [es] at h118 ⊢
                exact absurd h118 (by decide)
              · skip
                try simp only [es] at h118 ⊢
                skip
                refine zz_cV ok rfl trivial rfl lk_Wo_133 ca_Se_putPromise rfl rfl rfl rfl rfl (sp_Se_putPromise hG ?_)
                try simp only [es]
                refine zz_g ok rfl trivial ?_
                refine zz_pm [6, 5, 4, 3, 2, 1, 0] rfl ?_
                exact ih (k + 1) (by omega) (by omega) _ _ _ _ (nI_1 k) e4 (by rw [zz_it, ← eX, c_p1]; simp only [zz_gss] at h101; rw [if_pos (show c_pa M' s k = 0 from h101)]; simp [zz_gs, mx, h43, c_pa]) (by exact wr_pp (wr_set rfl (wr_set rfl hw')))
            · skip
              try simp only [es] at h101 ⊢
              try simp only [ek] at h101 ⊢
              refine zz_g ok rfl trivial ?_
              refine zz_pm [6, 5, 4, 3, 2, 1, 0] rfl ?_
              exact ih (k + 1) (by omega) (by omega) _ _ _ _ (nI_1 k) e4 (by rw [zz_it, ← eX, c_p1]; simp only [zz_gss] at h101; rw [if_neg (show ¬ c_pa M' s k = 0 from h101)]; rfl) (by exact wr_set rfl hw')
        · skip
          try simp only [es] at h72 ⊢
          try simp only [ek] at h72 ⊢
          refine zz_b ok rfl trivial rfl (fun h82 => ?_) (fun h82 => ?_)
          · skip
            try simp only [es] at h82 ⊢
            exact absurd h82 (by decide)
          · skip
            try simp only [es] at h82 ⊢
            skip
            refine zz_cV ok rfl trivial rfl lk_Wo_124 ca_Wo_answer rfl rfl rfl rfl rfl (sp_Wo_answer hG rfl hs rfl hk5 (tr := decide (M'.1 (3, 0, s) 7 < M'.1 (3, 0, k) 4)) (lc := !decide (M'.1 (3, 0, k) 5 = nI s)) (by simp [zz_bi, h43, h72]) (by simp [zz_bi, h43]) hw' ?_)
            try simp only [es]
            try simp only [ek]
            refine zz_b ok rfl (by and_intros <;> first | trivial | exact ni_5 hs | exact ni_5 hk5) rfl (fun h101 => ?_) (fun h101 => ?_)
            · skip
              try simp only [es] at h101 ⊢
              try simp only [ek] at h101 ⊢
              refine zz_b ok rfl trivial rfl (fun h118 => ?_) (fun h118 => ?_)
              · skip
                try simp only [es] at h118 ⊢
                exact absurd h118 (by decide)
              · skip
                try simp only [es] at h118 ⊢
                skip
                refine zz_cV ok rfl trivial rfl lk_Wo_133 ca_Se_putPromise rfl rfl rfl rfl rfl (sp_Se_putPromise hG ?_)
                try simp only [es]
                refine zz_g ok rfl trivial ?_
                refine zz_pm [6, 5, 4, 3, 2, 1, 0] rfl ?_
                exact ih (k + 1) (by omega) (by omega) _ _ _ _ (nI_1 k) e4 (by rw [zz_it, ← eX, c_p1]; simp only [zz_gss] at h101; rw [if_pos (show c_pa M' s k = 0 from h101)]; simp [zz_gs, mx, h43, c_pa]) (by exact wr_pp (wr_set rfl (wr_set rfl hw')))
            · skip
              try simp only [es] at h101 ⊢
              try simp only [ek] at h101 ⊢
              refine zz_g ok rfl trivial ?_
              refine zz_pm [6, 5, 4, 3, 2, 1, 0] rfl ?_
              exact ih (k + 1) (by omega) (by omega) _ _ _ _ (nI_1 k) e4 (by rw [zz_it, ← eX, c_p1]; simp only [zz_gss] at h101; rw [if_neg (show ¬ c_pa M' s k = 0 from h101)]; rfl) (by exact wr_set rfl hw')
      · skip
        try simp only [es] at h43 ⊢
        try simp only [ek] at h43 ⊢
        refine zz_b ok rfl trivial rfl (fun h72 => ?_) (fun h72 => ?_)
        · skip
          try simp only [es] at h72 ⊢
          try simp only [ek] at h72 ⊢
          refine zz_b ok rfl trivial rfl (fun h82 => ?_) (fun h82 => ?_)
          · skip
            try simp only [es] at h82 ⊢
            skip
            refine zz_cV ok rfl trivial rfl lk_Wo_124 ca_Wo_answer rfl rfl rfl rfl rfl (sp_Wo_answer hG rfl hs rfl hk5 (tr := decide (M'.1 (3, 0, s) 7 < M'.1 (3, 0, k) 4)) (lc := !decide (M'.1 (3, 0, k) 5 = nI s)) (by simp [zz_bi, h43, h72]) (by simp [zz_bi, h43]) hw' ?_)
            try simp only [es]
            try simp only [ek]
            refine zz_b ok rfl (by and_intros <;> first | trivial | exact ni_5 hs | exact ni_5 hk5) rfl (fun h101 => ?_) (fun h101 => ?_)
            · skip
              try simp only [es] at h101 ⊢
              try simp only [ek] at h101 ⊢
              refine zz_b ok rfl trivial rfl (fun h118 => ?_) (fun h118 => ?_)
              · skip
                try simp only [es] at h118 ⊢
                skip
                refine zz_cV ok rfl trivial rfl lk_Wo_133 ca_Se_putPromise rfl rfl rfl rfl rfl (sp_Se_putPromise hG ?_)
                try simp only [es]
                refine zz_g ok rfl trivial ?_
                refine zz_pm [6, 5, 4, 3, 2, 1, 0] rfl ?_
                exact ih (k + 1) (by omega) (by omega) _ _ _ _ (nI_1 k) e4 (by rw [zz_it, ← eX, c_p1]; simp only [zz_gss] at h101; rw [if_pos (show c_pa M' s k = 0 from h101)]; simp [zz_gs, mx, h43, c_pa]) (by exact wr_pp (wr_set rfl (wr_set rfl hw')))
              · skip
                try simp only [es] at h118 ⊢
                exact absurd h118 (by simp)
            · skip
              try simp only [es] at h101 ⊢
              try simp only [ek] at h101 ⊢
              refine zz_g ok rfl trivial ?_
              refine zz_pm [6, 5, 4, 3, 2, 1, 0] rfl ?_
              exact ih (k + 1) (by omega) (by omega) _ _ _ _ (nI_1 k) e4 (by rw [zz_it, ← eX, c_p1]; simp only [zz_gss] at h101; rw [if_neg (show ¬ c_pa M' s k = 0 from h101)]; rfl) (by exact wr_set rfl hw')
          · skip
            try simp only [es] at h82 ⊢
            exact absurd h82 (by simp)
        · skip
          try simp only [es] at h72 ⊢
          try simp only [ek] at h72 ⊢
          refine zz_b ok rfl trivial rfl (fun h82 => ?_) (fun h82 => ?_)
          · skip
            try simp only [es] at h82 ⊢
            skip
            refine zz_cV ok rfl trivial rfl lk_Wo_124 ca_Wo_answer rfl rfl rfl rfl rfl (sp_Wo_answer hG rfl hs rfl hk5 (tr := decide (M'.1 (3, 0, s) 7 < M'.1 (3, 0, k) 4)) (lc := !decide (M'.1 (3, 0, k) 5 = nI s)) (by simp [zz_bi, h43, h72]) (by simp [zz_bi, h43]) hw' ?_)
            try simp only [es]
            try simp only [ek]
            refine zz_b ok rfl (by and_intros <;> first | trivial | exact ni_5 hs | exact ni_5 hk5) rfl (fun h101 => ?_) (fun h101 => ?_)
            · skip
              try simp only [es] at h101 ⊢
              try simp only [ek] at h101 ⊢
              refine zz_b ok rfl trivial rfl (fun h118 => ?_) (fun h118 => ?_)
              · skip
                try simp only [es] at h118 ⊢
                skip
                refine zz_cV ok rfl trivial rfl lk_Wo_133 ca_Se_putPromise rfl rfl rfl rfl rfl (sp_Se_putPromise hG ?_)
                try simp only [es]
                refine zz_g ok rfl trivial ?_
                refine zz_pm [6, 5, 4, 3, 2, 1, 0] rfl ?_
                exact ih (k + 1) (by omega) (by omega) _ _ _ _ (nI_1 k) e4 (by rw [zz_it, ← eX, c_p1]; simp only [zz_gss] at h101; rw [if_pos (show c_pa M' s k = 0 from h101)]; simp [zz_gs, mx, h43, c_pa]) (by exact wr_pp (wr_set rfl (wr_set rfl hw')))
              · skip
                try simp only [es] at h118 ⊢
                exact absurd h118 (by simp)
            · skip
              try simp only [es] at h101 ⊢
              try simp only [ek] at h101 ⊢
              refine zz_g ok rfl trivial ?_
              refine zz_pm [6, 5, 4, 3, 2, 1, 0] rfl ?_
              exact ih (k + 1) (by omega) (by omega) _ _ _ _ (nI_1 k) e4 (by rw [zz_it, ← eX, c_p1]; simp only [zz_gss] at h101; rw [if_neg (show ¬ c_pa M' s k = 0 from h101)]; rfl) (by exact wr_set rfl hw')
          · skip
            try simp only [es] at h82 ⊢
            exact absurd h82 (by simp)
    · skip
      try simp only [es] at h25 ⊢
      rw [ni_lit, ni_ltn (by omega) (by decide)] at h25
      have hk6 : k = 5 := by omega
      subst hk6
      subst e4
      have eX1 : c_pX M s d = (M', x5) := eX.symm
      rw [eX1] at h
      dsimp only at h
      refine zz_b ok rfl trivial rfl (fun h151 => ?_) (fun h151 => ?_)
      · skip
        try simp only [es] at h151 ⊢
        refine zz_i ok rfl trivial rfl rfl ?_
        rw [if_pos h151] at h
        exact h
      · skip
        try simp only [es] at h151 ⊢
        refine zz_i ok rfl trivial rfl rfl ?_
        rw [if_neg h151] at h
        exact zz_pq h (by simp [zz_gs, mx]) (by simp [mx])
  refine zz_g ok rfl trivial ?_
  refine zz_pm [6, 5, 4, 3, 2, 1, 0] rfl ?_
  try simp only [es]
  exact lp22 6 0 (by omega) (by omega) _ _ _ _ rfl rfl rfl hw
theorem sp_Wo_shareLog {G : zG} {post : Option zV → zM → Prop} {M : zM} {s v : Nat} {a b : Int32} (hG : zz_go G) (ea : a = nI s) (hs : s < 5) (eb : b = nI v) (hv : v < 5) {cm : Int32} (hw : wr M 0) (h : post none (c_sh M s v cm)) : zz_T G md_Wo_shareLog [.inr (.inr (4, 0, 0)), .inl a, .inl b, .inl cm] M post := by
  refine en_Wo_shareLog hG rfl (fun Z ok => ?_)
  subst ea; subst eb
  have es := ni_e5 hs
  have ev := ni_e5 hv
  have hns := hw s (by omega)
  have hl : rn M 0 s * 4 ≤ zz_rl v := by
    rw [zz_rl5 (by omega)] at hns ⊢; exact hns.2
  refine zz_cV ok rfl (by and_intros <;> first | trivial | exact ni_5 hs | exact ni_5 hv) rfl lk_Wo_178 ca_Ro_copyRows rfl rfl rfl rfl rfl (sp_Ro_copyRows (n := rn M 0 s) hG (by rw [es]; exact hns.1) (by rw [ev]; exact hl) (by rw [es]; exact hns.2) ?_)
  try simp only [es, ev]
  refine zz_v ok rfl (by and_intros <;> first | trivial | exact ni_5 hs | exact ni_5 hv) rfl rfl ?_
  exact zz_pq h rfl (by simp [c_sh, ro_copy, zz_gs, zz_gc, mx, es, ev])
theorem sp_Wo_commitAll {G : zG} {post : Option zV → zM → Prop} {M : zM} {s : Nat} {a : Int32} (hG : zz_go G) (ea : a = nI s) (hs : s < 5) (hw : wr M 0) (hn0 : 0 < rn M 0 s) (h : post (some (.inl (M.1 (1, 0, s) 1 - 1))) (c_ca M s)) : zz_T G md_Wo_commitAll [.inr (.inr (4, 0, 0)), .inl a] M post := by
  refine en_Wo_commitAll hG rfl (fun Z ok => ?_)
  subst ea
  have es := ni_e5 hs
  have hns := hw s (by omega)
  have hno := hw (6 + s) (by omega)
  have hs5 : ¬ 5 = s := by omega
  have h5 : rn M 0 s * 4 ≤ zz_rl 5 := by
    rw [zz_rl5 (by omega)] at hns ⊢; exact hns.2
  have e1 : (c_ca0 M s).1 (1, 0, s) 1 = M.1 (1, 0, s) 1 := by
    unfold c_ca0 lo_copy ro_copy; split <;> simp [zz_gs, zz_gc]; omega
  have e2 : (c_ca0 M s).1 (1, 0, 6 + s) 1 = M.1 (1, 0, 6 + s) 1 := by
    unfold c_ca0 lo_copy ro_copy; split <;> simp [zz_gs, zz_gc]; omega
  have e3 : ∀ i, (c_ca0 M s).1 (7, 0, s) i = M.1 (7, 0, s) i := by
    intro i; unfold c_ca0 lo_copy ro_copy; split <;> simp [zz_gs, zz_gc]; omega
  have e4 : ∀ r : Int32, ro_get (c_ca0 M s) 0 s r 3 = ro_get M 0 s r 3 := by
    intro r; unfold ro_get; rw [e1, e3]
  refine zz_b ok rfl (by and_intros <;> first | trivial | exact ni_5 hs) rfl (fun h32 => ?_) (fun h32 => ?_)
  · skip
    try simp only [es] at h32 ⊢
    have h32 : M.1 (0, 0, 5) 1 < M.1 (1, 0, s) 1 := by simpa [zz_gs, hs5] using h32
    refine zz_cV ok rfl trivial rfl lk_Wo_182 ca_Lo_copyLog rfl rfl rfl rfl rfl (sp_Lo_copyLog (n := rn M 0 s) hG (by simp [zz_gs]; exact hns.1) h5 hns.2 ?_)
    try simp only [es]
    have e0 : c_ca0 M s = lo_copy (zz_set M (0, 0, s) 1 (M.1 (1, 0, s) 1)) 0 5 0 s (rn M 0 s) := by
      rw [c_ca0, if_pos h32]
    refine zz_cg (M' := c_ca0 M s) ?_ rfl rfl e0.symm
    refine zz_cV ok rfl (by and_intros <;> first | trivial | exact ni_5 hs) rfl lk_Wo_92 ca_Ro_get rfl rfl rfl rfl rfl (sp_Ro_get (n := rn M 0 s) hG (by rw [e1]; exact hns.1) hns.2 (c := 3) rfl (by decide) ?_)
    try simp only [es]
    refine zz_cV ok rfl trivial rfl lk_Wo_110 ca_Ro_add rfl rfl rfl rfl rfl (sp_Ro_add (n := rn M 0 (6 + s)) hG (by rw [e2]; exact hno.1) hno.2 ?_)
    try simp only [es]
    refine zz_i ok rfl trivial rfl rfl ?_
    refine zz_pq h (by rw [e1]) ?_
    unfold c_ca
    rw [e1, e4]
  · skip
    try simp only [es] at h32 ⊢
    have h32 : ¬ M.1 (0, 0, 5) 1 < M.1 (1, 0, s) 1 := by simpa [zz_gs, hs5] using h32
    have e0 : c_ca0 M s = zz_set M (0, 0, s) 1 (M.1 (1, 0, s) 1) := by
      rw [c_ca0, if_neg h32]
    refine zz_cg (M' := c_ca0 M s) ?_ rfl rfl e0.symm
    refine zz_cV ok rfl (by and_intros <;> first | trivial | exact ni_5 hs) rfl lk_Wo_92 ca_Ro_get rfl rfl rfl rfl rfl (sp_Ro_get (n := rn M 0 s) hG (by rw [e1]; exact hns.1) hns.2 (c := 3) rfl (by decide) ?_)
    try simp only [es]
    refine zz_cV ok rfl trivial rfl lk_Wo_110 ca_Ro_add rfl rfl rfl rfl rfl (sp_Ro_add (n := rn M 0 (6 + s)) hG (by rw [e2]; exact hno.1) hno.2 ?_)
    try simp only [es]
    refine zz_i ok rfl trivial rfl rfl ?_
    refine zz_pq h (by rw [e1]) ?_
    unfold c_ca
    rw [e1, e4]
theorem c_sh_sz {M : zM} {s v : Nat} {cm : Int32} (hne : ¬ v = s) : (c_sh M s v cm).1 (1, 0, s) 1 = M.1 (1, 0, s) 1 := by
  unfold c_sh ro_copy
  simp [zz_gs, zz_gc, Ne.symm hne]
theorem wr_app {M : zM} {w s n w2 : Nat} {t k v la : Int32} (h : wr M w2) : wr (lo_app M w s n t k v la) w2 := wr_add h
theorem rn_app {M : zM} {s : Nat} {t k v la : Int32} (hn : ¬ zz_rl s < (rn M 0 s + 1) * 4) : (lo_app M 0 s (rn M 0 s) t k v la).1 (1, 0, s) 1 = nI (rn M 0 s + 1) := by
  unfold lo_app ro_add
  rw [if_neg hn, zz_gss]
theorem sp_Wo_replicate {G : zG} {post : Option zV → zM → Prop} {M : zM} {s : Nat} {a : Int32} (hG : zz_go G) (ea : a = nI s) (hs : s < 5) {key val : Int32} (hw : wr M 0) (h : post (some (.inl (c_wr M s key val).1)) (c_wr M s key val).2) : zz_T G md_Wo_replicate [.inr (.inr (4, 0, 0)), .inl a, .inl key, .inl val] M post := by
  refine en_Wo_replicate hG rfl (fun Z ok => ?_)
  subst ea
  have es := ni_e5 hs
  unfold c_wr at h
  have hns := hw s (by omega)
  have hj := zz_rl5 (show s < 6 by omega)
  refine zz_cV ok rfl (by and_intros <;> first | trivial | exact ni_5 hs) rfl lk_Wo_79 ca_Wo_isHolder rfl rfl rfl rfl rfl (sp_Wo_isHolder hG rfl hs ?_)
  try simp only [es]
  refine zz_b ok rfl trivial rfl (fun h13 => ?_) (fun h13 => ?_)
  · skip
    try simp only [es] at h13 ⊢
    try simp only [zz_bi0, decide_eq_true_eq, decide_eq_false_iff_not, Bool.not_eq_false, Decidable.not_not] at h13
    rw [if_pos h13] at h
    refine zz_i ok rfl trivial rfl rfl ?_
    exact h
  · skip
    try simp only [es] at h13 ⊢
    try simp only [zz_bi0, decide_eq_true_eq, decide_eq_false_iff_not, Bool.not_eq_false, Decidable.not_not] at h13
    rw [if_neg (by simp [h13])] at h
    refine zz_cV ok rfl trivial rfl lk_Wo_106 ca_Ro_isFull rfl rfl rfl rfl rfl (sp_Ro_isFull (n := rn M 0 s) hG hns.1 hns.2 ?_)
    try simp only [es]
    refine zz_b ok rfl trivial rfl (fun h31 => ?_) (fun h31 => ?_)
    · skip
      try simp only [es] at h31 ⊢
      try simp only [zz_bi0, decide_eq_true_eq, decide_eq_false_iff_not, Bool.not_eq_false, Decidable.not_not] at h31
      rw [if_neg h31] at h
      refine zz_cV ok rfl trivial rfl lk_Wo_72 ca_Wo_latest rfl rfl rfl rfl rfl (sp_Wo_latest hG rfl hs ?_)
      try simp only [es]
      refine zz_cV ok rfl trivial rfl lk_Wo_166 ca_Lo_append rfl rfl rfl rfl rfl (sp_Lo_append (n := rn M 0 s) hG hns.1 hns.2 ?_)
      try simp only [es]
      have lp74 : ∀ (f k : Nat), 5 - k < f → k ≤ 5 → ∀ (x7 x6 x5 : Int32) (M' : zM), x7 = nI k → x5 = M.1 (0, 0, s) 1 → (M', x6) = zz_it (c_w1 s x5) k (lo_app M 0 s (rn M 0 s) (M.1 (3, 0, s) 7) key val (c_la M s), 1) → wr M' 0 → M'.1 (1, 0, s) 1 = nI (rn M 0 s + 1) → zz_W G Z md_Wo_replicate post 74 [(7, .inl x7), (6, .inl x6), (5, .inl x5), (4, .inr (.inr (3, 0, s))), (3, .inl val), (2, .inl key), (1, .inl (nI s)), (0, .inr (.inr (4, 0, 0)))] [] M' := by
        intro f
        induction f with
        | zero => intro k hf; exact absurd hf (Nat.not_lt_zero _)
        | succ f ih => ?_
        intro k hf hk x7 x6 x5 M' e7 e5 eX hw' hz'
        subst e7
        refine zz_b ok rfl trivial rfl (fun h77 => ?_) (fun h77 => ?_)
        · skip
          try simp only [es] at h77 ⊢
          try simp only [zz_bi0, decide_eq_true_eq, decide_eq_false_iff_not, Bool.not_eq_false, Decidable.not_not] at h77
          rw [ni_lit, ni_ltn (by omega) (by decide)] at h77
          have hk5 : k < 5 := h77
          have ek := ni_e5 hk5
          refine zz_b ok rfl trivial rfl (fun h83 => ?_) (fun h83 => ?_)
          · skip
            try simp only [es] at h83 ⊢
            try simp only [zz_bi0, decide_eq_true_eq, decide_eq_false_iff_not, Bool.not_eq_false, Decidable.not_not] at h83
            rw [ni_eqn (by omega) (by omega)] at h83
            refine zz_g ok rfl trivial ?_
            refine zz_pm [7, 6, 5, 4, 3, 2, 1, 0] rfl ?_
            exact ih (k + 1) (by omega) (by omega) _ _ _ _ (nI_1 k) e5 (by rw [zz_it, ← eX, c_w1]; rw [if_neg (fun q => q.1 h83)]) hw' hz'
          · skip
            try simp only [es] at h83 ⊢
            try simp only [zz_bi0, decide_eq_true_eq, decide_eq_false_iff_not, Bool.not_eq_false, Decidable.not_not] at h83
            rw [ni_eqn (by omega) (by omega)] at h83
            refine zz_cV ok rfl trivial rfl lk_Wo_169 ca_Wo_accepts rfl rfl rfl rfl rfl (sp_Wo_accepts hG rfl hs rfl hk5 ?_)
            try simp only [es]
            refine zz_b ok rfl trivial rfl (fun h93 => ?_) (fun h93 => ?_)
            · skip
              try simp only [es] at h93 ⊢
              try simp only [zz_bi0, decide_eq_true_eq, decide_eq_false_iff_not, Bool.not_eq_false, Decidable.not_not] at h93
              refine zz_g ok rfl trivial ?_
              refine zz_pm [7, 6, 5, 4, 3, 2, 1, 0] rfl ?_
              exact ih (k + 1) (by omega) (by omega) _ _ _ _ (nI_1 k) e5 (by rw [zz_it, ← eX, c_w1]; rw [if_neg (by simp [h93])]) hw' hz'
            · skip
              try simp only [es] at h93 ⊢
              try simp only [zz_bi0, decide_eq_true_eq, decide_eq_false_iff_not, Bool.not_eq_false, Decidable.not_not] at h93
              refine zz_cV ok rfl trivial rfl lk_Wo_172 ca_Wo_shareLog rfl rfl rfl rfl rfl (sp_Wo_shareLog hG rfl hs rfl hk5 hw' ?_)
              try simp only [es]
              refine zz_g ok rfl trivial ?_
              refine zz_pm [7, 6, 5, 4, 3, 2, 1, 0] rfl ?_
              exact ih (k + 1) (by omega) (by omega) _ _ _ _ (nI_1 k) e5 (by rw [zz_it, ← eX, c_w1]; rw [if_pos ⟨h83, h93⟩]) (c_sh_wr hs hk5 hw') (by rw [c_sh_sz h83]; exact hz')
        · skip
          try simp only [es] at h77 ⊢
          try simp only [zz_bi0, decide_eq_true_eq, decide_eq_false_iff_not, Bool.not_eq_false, Decidable.not_not] at h77
          rw [ni_lit, ni_ltn (by omega) (by decide)] at h77
          have hk6 : k = 5 := by omega
          subst hk6
          subst e5
          have eX1 : c_wX M s key val = (M', x6) := eX.symm
          rw [eX1] at h
          dsimp only at h
          refine zz_b ok rfl trivial rfl (fun h117 => ?_) (fun h117 => ?_)
          · skip
            try simp only [es] at h117 ⊢
            try simp only [zz_bi0, decide_eq_true_eq, decide_eq_false_iff_not, Bool.not_eq_false, Decidable.not_not] at h117
            rw [if_pos h117] at h
            refine zz_i ok rfl trivial rfl rfl ?_
            exact h
          · skip
            try simp only [es] at h117 ⊢
            try simp only [zz_bi0, decide_eq_true_eq, decide_eq_false_iff_not, Bool.not_eq_false, Decidable.not_not] at h117
            rw [if_neg h117] at h
            refine zz_cV ok rfl trivial rfl lk_Wo_175 ca_Wo_commitAll rfl rfl rfl rfl rfl (sp_Wo_commitAll hG rfl hs hw' (by have := zz_ixn (n := rn M 0 s + 1) (by omega); unfold rn at *; rw [hz', this]; omega) ?_)
            try simp only [es]
            refine zz_i ok rfl trivial rfl rfl ?_
            exact h
      refine zz_g ok rfl trivial ?_
      refine zz_pm [7, 6, 5, 4, 3, 2, 1, 0] rfl ?_
      try simp only [es]
      exact lp74 6 0 (by omega) (by omega) _ _ _ _ rfl rfl rfl (wr_app hw) (rn_app h31)
    · skip
      try simp only [es] at h31 ⊢
      try simp only [zz_bi0, decide_eq_true_eq, decide_eq_false_iff_not, Bool.not_eq_false, Decidable.not_not] at h31
      rw [if_pos h31] at h
      refine zz_i ok rfl trivial rfl rfl ?_
      exact h
theorem sp_Wo_ticksUntilGrant {G : zG} {post : Option zV → zM → Prop} {M : zM} {s v : Nat} {a b : Int32} (hG : zz_go G) (ea : a = nI s) (hs : s < 5) (eb : b = nI v) (hv : v < 5) {cr : Int32} (hw : wr M 0) (h : post (some (.inl (c_tg M cr s v))) M) : zz_T G md_Wo_ticksUntilGrant [.inr (.inr (4, 0, 0)), .inl a, .inl b, .inl cr] M post := by
  refine en_Wo_ticksUntilGrant hG rfl (fun Z ok => ?_)
  subst ea; subst eb
  have es := ni_e5 hs
  have ev := ni_e5 hv
  have hns := hw s (by omega)
  have hnv := hw v (by omega)
  refine zz_b ok rfl trivial rfl (fun h6 => ?_) (fun h6 => ?_)
  · skip
    try simp only [es, ev] at h6 ⊢
    try simp only [zz_bi0, Bool.not_eq_false] at h6
    refine zz_b ok rfl trivial rfl (fun h27 => ?_) (fun h27 => ?_)
    · skip
      try simp only [es, ev] at h27 ⊢
      try simp only [zz_bi0, Bool.not_eq_false] at h27
      exact absurd h27 (by decide)
    · skip
      try simp only [es, ev] at h27 ⊢
      try simp only [zz_bi0, Bool.not_eq_false] at h27
      skip
      refine zz_i ok rfl trivial rfl rfl ?_
      refine zz_pq h ?_ rfl
      rw [c_tg, if_pos]
      simp [c_gone, c_rec, h6, h27]
  · skip
    try simp only [es, ev] at h6 ⊢
    try simp only [zz_bi0, Bool.not_eq_false] at h6
    refine zz_b ok rfl trivial rfl (fun h15 => ?_) (fun h15 => ?_)
    · skip
      try simp only [es, ev] at h15 ⊢
      try simp only [zz_bi0, Bool.not_eq_false] at h15
      refine zz_b ok rfl trivial rfl (fun h27 => ?_) (fun h27 => ?_)
      · skip
        try simp only [es, ev] at h27 ⊢
        try simp only [zz_bi0, Bool.not_eq_false] at h27
        exact absurd h27 (by decide)
      · skip
        try simp only [es, ev] at h27 ⊢
        try simp only [zz_bi0, Bool.not_eq_false] at h27
        skip
        refine zz_i ok rfl trivial rfl rfl ?_
        refine zz_pq h ?_ rfl
        rw [c_tg, if_pos]
        simp [c_gone, c_rec, h6, h15, h27]
    · skip
      try simp only [es, ev] at h15 ⊢
      try simp only [zz_bi0, Bool.not_eq_false] at h15
      refine zz_b ok rfl trivial rfl (fun h27 => ?_) (fun h27 => ?_)
      · skip
        try simp only [es, ev] at h27 ⊢
        try simp only [zz_bi0, Bool.not_eq_false] at h27
        skip
        refine zz_cV ok rfl trivial rfl lk_Wo_146 ca_Wo_isReached rfl rfl rfl rfl rfl (sp_Wo_isReached hG rfl hs rfl hv ?_)
        try simp only [es, ev]
        refine zz_b ok rfl trivial rfl (fun h36 => ?_) (fun h36 => ?_)
        · skip
          try simp only [es, ev] at h36 ⊢
          try simp only [zz_bi0, Bool.not_eq_false] at h36
          refine zz_i ok rfl trivial rfl rfl ?_
          refine zz_pq h ?_ rfl
          rw [c_tg, if_pos]
          simp [c_gone, c_rec, h6, h15, h27, h36]
        · skip
          try simp only [es, ev] at h36 ⊢
          try simp only [zz_bi0, Bool.not_eq_false] at h36
          refine zz_cV ok rfl (by and_intros <;> first | trivial | exact ni_5 hs | exact ni_5 hv) rfl lk_Wo_120 ca_Wo_isTooOldFor rfl rfl rfl rfl rfl (sp_Wo_isTooOldFor hG rfl hs rfl hv ?_)
          try simp only [es, ev]
          refine zz_b ok rfl trivial rfl (fun h56 => ?_) (fun h56 => ?_)
          · skip
            try simp only [es, ev] at h56 ⊢
            try simp only [zz_bi0, Bool.not_eq_false] at h56
            refine zz_cV ok rfl (by and_intros <;> first | trivial | exact ni_5 hs | exact ni_5 hv) rfl lk_Wo_156 ca_Lo_isAtLeastAsRecentAs rfl rfl rfl rfl rfl (sp_Lo_isAtLeastAsRecentAs (n := rn M 0 s) (n2 := rn M 0 v) hG (by rw [es]; exact hns.1) (by rw [es]; exact hns.2) (by rw [ev]; exact hnv.1) (by rw [ev]; exact hnv.2) ?_)
            try simp only [es, ev]
            refine zz_b ok rfl trivial rfl (fun h80 => ?_) (fun h80 => ?_)
            · skip
              try simp only [es, ev] at h80 ⊢
              try simp only [zz_bi0, Bool.not_eq_false] at h80
              refine zz_i ok rfl trivial rfl rfl ?_
              refine zz_pq h ?_ rfl
              rw [c_tg, if_pos]
              simp [c_gone, c_rec, h6, h15, h27, h36, h56, h80]
            · skip
              try simp only [es, ev] at h80 ⊢
              try simp only [zz_bi0, Bool.not_eq_false] at h80
              refine zz_cV ok rfl trivial rfl lk_Wo_150 ca_Wo_ticksBound rfl rfl rfl rfl rfl (sp_Wo_ticksBound hG rfl hs rfl hv ?_)
              try simp only [es, ev]
              refine zz_i ok rfl trivial rfl rfl ?_
              refine zz_pq h ?_ rfl
              rw [c_tg, if_neg]
              simp [c_gone, c_rec, h6, h15, h27, h36, h56, h80]
          · skip
            try simp only [es, ev] at h56 ⊢
            try simp only [zz_bi0, Bool.not_eq_false] at h56
            refine zz_i ok rfl trivial rfl rfl ?_
            refine zz_pq h ?_ rfl
            rw [c_tg, if_pos]
            simp [c_gone, c_rec, h6, h15, h27, h36, h56]
      · skip
        try simp only [es, ev] at h27 ⊢
        try simp only [zz_bi0, Bool.not_eq_false] at h27
        exact absurd h27 (by simp)
theorem sp_Wo_grantsAfter {G : zG} {post : Option zV → zM → Prop} {M : zM} {s : Nat} {a : Int32} (hG : zz_go G) (ea : a = nI s) (hs : s < 5) {ti cr : Int32} (hw : wr M 0) (h : post (some (.inl (c_ga M cr s ti 5))) M) : zz_T G md_Wo_grantsAfter [.inr (.inr (4, 0, 0)), .inl a, .inl ti, .inl cr] M post := by
  refine en_Wo_grantsAfter hG rfl (fun Z ok => ?_)
  subst ea
  have es := ni_e5 hs
  have lp6 : ∀ (f k : Nat), 5 - k < f → k ≤ 5 → ∀ (x5 x4 : Int32), x5 = nI k → x4 = c_ga M cr s ti k → zz_W G Z md_Wo_grantsAfter post 6 [(5, .inl x5), (4, .inl x4), (3, .inl cr), (2, .inl ti), (1, .inl (nI s)), (0, .inr (.inr (4, 0, 0)))] [] M := by
    intro f
    induction f with
    | zero => intro k hf; exact absurd hf (Nat.not_lt_zero _)
    | succ f ih => ?_
    intro k hf hk x5 x4 e5 e4
    subst e5; subst e4
    refine zz_b ok rfl trivial rfl (fun h9 => ?_) (fun h9 => ?_)
    · skip
      try simp only [es] at h9 ⊢
      rw [ni_lit, ni_ltn (by omega) (by decide)] at h9
      have hk5 : k < 5 := h9
      have ek := ni_e5 hk5
      refine zz_cV ok rfl trivial rfl lk_Wo_195 ca_Wo_ticksUntilGrant rfl rfl rfl rfl rfl (sp_Wo_ticksUntilGrant hG rfl hs rfl hk5 hw ?_)
      try simp only [es]
      refine zz_b ok rfl trivial rfl (fun h27 => ?_) (fun h27 => ?_)
      · skip
        try simp only [es] at h27 ⊢
        refine zz_g ok rfl trivial ?_
        refine zz_pm [5, 4, 3, 2, 1, 0] rfl ?_
        exact ih (k + 1) (by omega) (by omega) _ _ (nI_1 k) (by rw [c_ga, if_neg (fun q => q.1 h27)])
      · skip
        try simp only [es] at h27 ⊢
        refine zz_b ok rfl trivial rfl (fun h33 => ?_) (fun h33 => ?_)
        · skip
          try simp only [es] at h33 ⊢
          refine zz_g ok rfl trivial ?_
          refine zz_pm [5, 4, 3, 2, 1, 0] rfl ?_
          exact ih (k + 1) (by omega) (by omega) _ _ (nI_1 k) (by rw [c_ga, if_neg (fun q => q.2 h33)])
        · skip
          try simp only [es] at h33 ⊢
          refine zz_g ok rfl trivial ?_
          refine zz_pm [5, 4, 3, 2, 1, 0] rfl ?_
          exact ih (k + 1) (by omega) (by omega) _ _ (nI_1 k) (by rw [c_ga, if_pos ⟨h27, h33⟩])
    · skip
      try simp only [es] at h9 ⊢
      rw [ni_lit, ni_ltn (by omega) (by decide)] at h9
      have hk6 : k = 5 := by omega
      subst hk6
      refine zz_i ok rfl trivial rfl rfl ?_
      exact h
  refine zz_g ok rfl trivial ?_
  refine zz_pm [5, 4, 3, 2, 1, 0] rfl ?_
  exact lp6 6 0 (by omega) (by omega) _ _ rfl rfl
theorem sp_Wo_ticksUntilLease {G : zG} {post : Option zV → zM → Prop} {M : zM} {s : Nat} {a : Int32} (hG : zz_go G) (ea : a = nI s) (hs : s < 5) {cr : Int32} (hw : wr M 0) (h : post (some (.inl (c_tl M cr s 5))) M) : zz_T G md_Wo_ticksUntilLease [.inr (.inr (4, 0, 0)), .inl a, .inl cr] M post := by
  refine en_Wo_ticksUntilLease hG rfl (fun Z ok => ?_)
  subst ea
  have es := ni_e5 hs
  have lp7 : ∀ (f k : Nat), 5 - k < f → k ≤ 5 → ∀ (x4 x3 : Int32), x4 = nI k → x3 = c_tl M cr s k → zz_W G Z md_Wo_ticksUntilLease post 7 [(4, .inl x4), (3, .inl x3), (2, .inl cr), (1, .inl (nI s)), (0, .inr (.inr (4, 0, 0)))] [] M := by
    intro f
    induction f with
    | zero => intro k hf; exact absurd hf (Nat.not_lt_zero _)
    | succ f ih => ?_
    intro k hf hk x4 x3 e4 e3
    subst e4; subst e3
    refine zz_b ok rfl trivial rfl (fun h10 => ?_) (fun h10 => ?_)
    · skip
      try simp only [es] at h10 ⊢
      rw [ni_lit, ni_ltn (by omega) (by decide)] at h10
      have hk5 : k < 5 := h10
      have ek := ni_e5 hk5
      refine zz_cV ok rfl trivial rfl lk_Wo_195 ca_Wo_ticksUntilGrant rfl rfl rfl rfl rfl (sp_Wo_ticksUntilGrant hG rfl hs rfl hk5 hw ?_)
      try simp only [es]
      refine zz_b ok rfl trivial rfl (fun h27 => ?_) (fun h27 => ?_)
      · skip
        try simp only [es] at h27 ⊢
        refine zz_b ok rfl trivial rfl (fun h48 => ?_) (fun h48 => ?_)
        · skip
          try simp only [es] at h48 ⊢
          refine zz_g ok rfl trivial ?_
          refine zz_pm [4, 3, 2, 1, 0] rfl ?_
          exact ih (k + 1) (by omega) (by omega) _ _ (nI_1 k) (by rw [c_tl, if_neg (fun q => q.1 h48)])
        · skip
          try simp only [es] at h48 ⊢
          refine zz_b ok rfl trivial rfl (fun h53 => ?_) (fun h53 => ?_)
          · skip
            try simp only [es] at h53 ⊢
            exact absurd h53 (by decide)
          · skip
            try simp only [es] at h53 ⊢
            skip
            refine zz_cV ok rfl trivial rfl lk_Wo_199 ca_Wo_grantsAfter rfl rfl rfl rfl rfl (sp_Wo_grantsAfter hG rfl hs hw ?_)
            try simp only [es]
            refine zz_b ok rfl trivial rfl (fun h65 => ?_) (fun h65 => ?_)
            · skip
              try simp only [es] at h65 ⊢
              refine zz_g ok rfl trivial ?_
              refine zz_pm [4, 3, 2, 1, 0] rfl ?_
              exact ih (k + 1) (by omega) (by omega) _ _ (nI_1 k) (by rw [c_tl, if_neg (fun q => q.2.2 h65)])
            · skip
              try simp only [es] at h65 ⊢
              refine zz_g ok rfl trivial ?_
              refine zz_pm [4, 3, 2, 1, 0] rfl ?_
              exact ih (k + 1) (by omega) (by omega) _ _ (nI_1 k) (by rw [c_tl, if_pos ⟨h48, Or.inl h27, h65⟩])
      · skip
        try simp only [es] at h27 ⊢
        refine zz_b ok rfl trivial rfl (fun h33 => ?_) (fun h33 => ?_)
        · skip
          try simp only [es] at h33 ⊢
          refine zz_b ok rfl trivial rfl (fun h48 => ?_) (fun h48 => ?_)
          · skip
            try simp only [es] at h48 ⊢
            refine zz_g ok rfl trivial ?_
            refine zz_pm [4, 3, 2, 1, 0] rfl ?_
            exact ih (k + 1) (by omega) (by omega) _ _ (nI_1 k) (by rw [c_tl, if_neg (fun q => q.1 h48)])
          · skip
            try simp only [es] at h48 ⊢
            refine zz_b ok rfl trivial rfl (fun h53 => ?_) (fun h53 => ?_)
            · skip
              try simp only [es] at h53 ⊢
              exact absurd h53 (by decide)
            · skip
              try simp only [es] at h53 ⊢
              skip
              refine zz_cV ok rfl trivial rfl lk_Wo_199 ca_Wo_grantsAfter rfl rfl rfl rfl rfl (sp_Wo_grantsAfter hG rfl hs hw ?_)
              try simp only [es]
              refine zz_b ok rfl trivial rfl (fun h65 => ?_) (fun h65 => ?_)
              · skip
                try simp only [es] at h65 ⊢
                refine zz_g ok rfl trivial ?_
                refine zz_pm [4, 3, 2, 1, 0] rfl ?_
                exact ih (k + 1) (by omega) (by omega) _ _ (nI_1 k) (by rw [c_tl, if_neg (fun q => q.2.2 h65)])
              · skip
                try simp only [es] at h65 ⊢
                refine zz_g ok rfl trivial ?_
                refine zz_pm [4, 3, 2, 1, 0] rfl ?_
                exact ih (k + 1) (by omega) (by omega) _ _ (nI_1 k) (by rw [c_tl, if_pos ⟨h48, Or.inr h33, h65⟩])
        · skip
          try simp only [es] at h33 ⊢
          refine zz_b ok rfl trivial rfl (fun h48 => ?_) (fun h48 => ?_)
          · skip
            try simp only [es] at h48 ⊢
            refine zz_g ok rfl trivial ?_
            refine zz_pm [4, 3, 2, 1, 0] rfl ?_
            exact ih (k + 1) (by omega) (by omega) _ _ (nI_1 k) (by rw [c_tl, if_neg (fun q => q.1 h48)])
          · skip
            try simp only [es] at h48 ⊢
            refine zz_b ok rfl trivial rfl (fun h53 => ?_) (fun h53 => ?_)
            · skip
              try simp only [es] at h53 ⊢
              skip
              refine zz_g ok rfl trivial ?_
              refine zz_pm [4, 3, 2, 1, 0] rfl ?_
              exact ih (k + 1) (by omega) (by omega) _ _ (nI_1 k) (by rw [c_tl, if_neg (fun q => q.2.1.elim h27 h33)])
            · skip
              try simp only [es] at h53 ⊢
              exact absurd h53 (by simp)
    · skip
      try simp only [es] at h10 ⊢
      rw [ni_lit, ni_ltn (by omega) (by decide)] at h10
      have hk6 : k = 5 := by omega
      subst hk6
      refine zz_i ok rfl trivial rfl rfl ?_
      exact h
  refine zz_g ok rfl trivial ?_
  refine zz_pm [4, 3, 2, 1, 0] rfl ?_
  exact lp7 6 0 (by omega) (by omega) _ _ rfl rfl
theorem sp_Wo_isStoppedWithout {G : zG} {post : Option zV → zM → Prop} {M : zM} {cr : Int32} (hG : zz_go G) (hw : wr M 0) (h : post (some (.inl (zz_bi (c_sw M cr 5 0)))) M) : zz_T G md_Wo_isStoppedWithout [.inr (.inr (4, 0, 0)), .inl cr] M post := by
  refine en_Wo_isStoppedWithout hG rfl (fun Z ok => ?_)
  have lp2 : ∀ (f k : Nat), 5 - k < f → k ≤ 5 → ∀ (x2 : Int32), x2 = nI k → c_sw M cr 5 0 = c_sw M cr (5 - k) k → zz_W G Z md_Wo_isStoppedWithout post 2 [(2, .inl x2), (1, .inl cr), (0, .inr (.inr (4, 0, 0)))] [] M := by
    intro f
    induction f with
    | zero => intro k hf; exact absurd hf (Nat.not_lt_zero _)
    | succ f ih => ?_
    intro k hf hk x2 e2 hsw
    subst e2
    refine zz_b ok rfl trivial rfl (fun h4 => ?_) (fun h4 => ?_)
    · skip
      rw [ni_lit, ni_ltn (by omega) (by decide)] at h4
      have hk5 : k < 5 := h4
      have ek := ni_e5 hk5
      refine zz_cV ok rfl trivial rfl lk_Wo_192 ca_Wo_ticksUntilLease rfl rfl rfl rfl rfl (sp_Wo_ticksUntilLease hG rfl hk5 hw ?_)
      refine zz_b ok rfl trivial rfl (fun h16 => ?_) (fun h16 => ?_)
      · skip
        refine zz_g ok rfl trivial ?_
        refine zz_pm [2, 1, 0] rfl ?_
        exact ih (k + 1) (by omega) (by omega) _ (nI_1 k) (by rw [hsw, show 5 - k = (5 - (k + 1)) + 1 by omega, c_sw, if_pos h16])
      · skip
        refine zz_z ok rfl trivial rfl rfl (by first | exact Or.inl rfl | exact Or.inr rfl | exact zz_bi01 _) ?_
        exact zz_pq h (by rw [hsw, show 5 - k = (5 - (k + 1)) + 1 by omega, c_sw, if_neg h16]; rfl) rfl
    · skip
      rw [ni_lit, ni_ltn (by omega) (by decide)] at h4
      have hk6 : k = 5 := by omega
      subst hk6
      refine zz_z ok rfl trivial rfl rfl (by first | exact Or.inl rfl | exact Or.inr rfl | exact zz_bi01 _) ?_
      exact zz_pq h (by rw [hsw]; rfl) rfl
  refine zz_g ok rfl trivial ?_
  refine zz_pm [2, 1, 0] rfl ?_
  exact lp2 6 0 (by omega) (by omega) _ rfl rfl
