def mx (a b : Int32) : Int32 := if a < b then b else a
def c_ac (M : zM) (s v : Nat) : Bool := c_re M s v && decide (¬ M.1 (3, 0, s) 7 < M.1 (3, 0, v) 4)
def c_e1 (s : Nat) (t e : Int32) (v : Nat) (X : zM × Int32) : zM × Int32 :=
  if c_an X.1 s v (c_too X.1 s v t) true = 2 then (zz_set (zz_set X.1 (11, 0, 0) v (c_an X.1 s v (c_too X.1 s v t) true)) (3, 0, s) 4 (mx (X.1.1 (3, 0, s) 4) (X.1.1 (3, 0, v) 4)), X.2)
  else if c_an X.1 s v (c_too X.1 s v t) true = 0 then (se_pp (zz_set (zz_set X.1 (11, 0, 0) v (c_an X.1 s v (c_too X.1 s v t) true)) (3, 0, v) 4 (mx (X.1.1 (3, 0, v) 4) t)) 0 v (nI s) e, X.2 + 1)
  else (zz_set X.1 (11, 0, 0) v (c_an X.1 s v (c_too X.1 s v t) true), X.2)
def c_m0 (M : zM) (s : Nat) : zM := zz_set M (3, 0, s) 4 (M.1 (3, 0, s) 4 + 1)
def c_eX (M : zM) (s : Nat) (d : Int32) : zM × Int32 := zz_it (c_e1 s (M.1 (3, 0, s) 4 + 1) (c_rd (c_m0 M s) s + d)) 5 (c_m0 M s, 0)
def c_el (M : zM) (s : Nat) (d : Int32) : Int32 × zM :=
  if (c_eX M s d).2 < 3 then (-10 - (c_eX M s d).2, se_pl (c_eX M s d).1 0 s (-1000) (-1000)) else (M.1 (3, 0, s) 4 + 1, se_pl (c_eX M s d).1 0 s (M.1 (3, 0, s) 4 + 1) (c_rd (c_m0 M s) s + d))
def c_pa (M : zM) (s v : Nat) : Int32 := c_an M s v (decide (M.1 (3, 0, s) 7 < M.1 (3, 0, v) 4)) (!decide (M.1 (3, 0, v) 5 = nI s))
def c_p1 (s : Nat) (e : Int32) (v : Nat) (X : zM × Int32) : zM × Int32 :=
  if c_pa X.1 s v = 0 then (se_pp (zz_set (zz_set X.1 (11, 0, 0) v (c_pa X.1 s v)) (3, 0, v) 4 (X.1.1 (3, 0, s) 7)) 0 v (nI s) (if X.1.1 (3, 0, v) 5 = nI s then mx e (X.1.1 (3, 0, v) 6) else e), X.2 + 1)
  else (zz_set X.1 (11, 0, 0) v (c_pa X.1 s v), X.2)
def c_pX (M : zM) (s : Nat) (d : Int32) : zM × Int32 := zz_it (c_p1 s (c_rd M s + d)) 5 (M, 0)
def c_pr (M : zM) (s : Nat) (d : Int32) : Int32 × zM :=
  if (c_pX M s d).2 < 3 then (-10 - (c_pX M s d).2, (c_pX M s d).1) else (mx ((c_pX M s d).1.1 (3, 0, s) 8) (c_rd M s + d), zz_set (c_pX M s d).1 (3, 0, s) 8 (mx ((c_pX M s d).1.1 (3, 0, s) 8) (c_rd M s + d)))
def c_a1 (s v : Nat) (X : zM × Int32) : zM × Int32 := if c_re X.1 s v = true ∧ X.1.1 (3, 0, v) 5 = nI s then (se_pp X.1 0 v (-1000) (-1000), X.2 + 1) else X
def c_ab (M : zM) (s : Nat) : zM × Int32 := zz_it (c_a1 s) 5 (se_pl M 0 s (-1000) (-1000), 0)
def c_sh (M : zM) (s v : Nat) (cm : Int32) : zM := zz_set (zz_set (ro_copy M 0 v 0 s (rn M 0 s)) (3, 0, v) 4 (M.1 (3, 0, s) 7)) (0, 0, v) 1 (mx (M.1 (0, 0, v) 1) cm)
def c_ca0 (M : zM) (s : Nat) : zM := if M.1 (0, 0, 5) 1 < M.1 (1, 0, s) 1 then lo_copy (zz_set M (0, 0, s) 1 (M.1 (1, 0, s) 1)) 0 5 0 s (rn M 0 s) else zz_set M (0, 0, s) 1 (M.1 (1, 0, s) 1)
def c_ca (M : zM) (s : Nat) : zM := ro_add (c_ca0 M s) 0 (6 + s) (rn M 0 (6 + s)) (nI s) (M.1 (1, 0, s) 1 - 1) (ro_get M 0 s (M.1 (1, 0, s) 1 - 1) 3) (-1000)
def c_w1 (s : Nat) (cb : Int32) (v : Nat) (X : zM × Int32) : zM × Int32 := if ¬ v = s ∧ c_ac X.1 s v = true then (c_sh X.1 s v cb, X.2 + 1) else X
def c_wX (M : zM) (s : Nat) (key val : Int32) : zM × Int32 := zz_it (c_w1 s (M.1 (0, 0, s) 1)) 5 (lo_app M 0 s (rn M 0 s) (M.1 (3, 0, s) 7) key val (c_la M s), 1)
def c_wr (M : zM) (s : Nat) (key val : Int32) : Int32 × zM :=
  if c_ho M s = false then (-1002, M) else if zz_rl s < (rn M 0 s + 1) * 4 then (-1003, M) else
  if (c_wX M s key val).2 < 3 then (-10 - (c_wX M s key val).2, (c_wX M s key val).1) else ((c_wX M s key val).1.1 (1, 0, s) 1 - 1, c_ca (c_wX M s key val).1 s)
def c_gone (cr : Int32) (s v : Nat) : Bool := decide (cr >>> (nI s &&& 31) &&& 1 = 1) || decide (cr >>> (nI v &&& 31) &&& 1 = 1)
def c_tg (M : zM) (cr : Int32) (s v : Nat) : Int32 := if c_gone cr s v = true ∨ c_re M s v = false ∨ c_too M s v (M.1 (3, 0, s) 4 + 1) = true ∨ c_rec M s v = false then -1000 else c_tb M s v
def c_ga (M : zM) (cr : Int32) (s : Nat) (ti : Int32) : Nat → Int32
  | 0 => 0
  | k + 1 => if ¬ c_tg M cr s k = -1000 ∧ ¬ ti < c_tg M cr s k then c_ga M cr s ti k + 1 else c_ga M cr s ti k
def c_tl (M : zM) (cr : Int32) (s : Nat) : Nat → Int32
  | 0 => -1000
  | k + 1 => if ¬ c_tg M cr s k = -1000 ∧ (c_tl M cr s k = -1000 ∨ c_tg M cr s k < c_tl M cr s k) ∧ ¬ c_ga M cr s (c_tg M cr s k) 5 < 3 then c_tg M cr s k else c_tl M cr s k
def c_sw (M : zM) (cr : Int32) : Nat → Nat → Bool
  | 0, _ => true
  | f + 1, s => if c_tl M cr s 5 = -1000 then c_sw M cr f (s + 1) else false
def c_br (M : zM) (k : Nat) : Int32 × zM :=
  if M.1 (7, 0, 12) (4 * k) < 0 ∨ 3 < M.1 (7, 0, 12) (4 * k) ∨ M.1 (7, 0, 12) (4 * k + 2) < M.1 (13, 0, 0) (zz_ix (M.1 (7, 0, 12) (4 * k))) then (0, zz_set (zz_set M (7, 0, 12) (4 * k + 3) 1) (4, 0, 0) 11 (M.1 (4, 0, 0) 11 + 1))
  else (1, zz_set (zz_set (zz_set M (7, 0, 12) (4 * k + 3) 1) (12, 0, 0) (zz_ix (M.1 (7, 0, 12) (4 * k))) (M.1 (7, 0, 12) (4 * k + 1))) (13, 0, 0) (zz_ix (M.1 (7, 0, 12) (4 * k))) (M.1 (7, 0, 12) (4 * k + 2)))
theorem zz_rl5 {s : Nat} (hs : s < 6) : zz_rl s = 160 := by unfold zz_rl; rw [if_neg (by omega), if_neg (by omega)]
theorem wr_pp {M : zM} {w s w2 : Nat} {a b : Int32} (h : wr M w2) : wr (se_pp M w s a b) w2 := wr_set rfl (wr_set rfl h)
theorem wr_pl {M : zM} {w s w2 : Nat} {a b : Int32} (h : wr M w2) : wr (se_pl M w s a b) w2 := wr_set rfl (wr_set rfl h)
theorem c_e1_wr {s v : Nat} {t e : Int32} {X : zM × Int32} (h : wr X.1 0) : wr (c_e1 s t e v X).1 0 := by
  unfold c_e1
  split
  · exact wr_set rfl (wr_set rfl h)
  · split
    · exact wr_pp (wr_set rfl (wr_set rfl h))
    · exact wr_set rfl h
theorem c_p1_wr {s v : Nat} {e : Int32} {X : zM × Int32} (h : wr X.1 0) : wr (c_p1 s e v X).1 0 := by
  unfold c_p1
  split
  · exact wr_pp (wr_set rfl (wr_set rfl h))
  · exact wr_set rfl h
theorem c_a1_wr {s v : Nat} {X : zM × Int32} (h : wr X.1 0) : wr (c_a1 s v X).1 0 := by
  unfold c_a1
  split
  · exact wr_pp h
  · exact h
theorem c_sh_wr {M : zM} {s v : Nat} {cm : Int32} (hs : s < 5) (hv : v < 5) (h : wr M 0) : wr (c_sh M s v cm) 0 :=
  wr_set rfl (wr_set rfl (wr_copy (by have h1 := (h s (by omega)).2; rw [zz_rl5 (by omega)] at h1 ⊢; exact h1) h))
theorem zz_rlo {s : Nat} (hs : s < 5) : zz_rl (6 + s) = 160 := by unfold zz_rl; rw [if_neg (by omega), if_neg (by omega)]
theorem zz_gss (M : zM) (r : zR) (k : Nat) (v : Int32) : (zz_set M r k v).1 r k = v := by simp [zz_gs]
theorem sp_Wo_giveDue {G : zG} {post : Option zV → zM → Prop} {M : zM} {s : Nat} {a : Int32} (hG : zz_go G) (ea : a = nI s) (hs : s < 5) (hw : wr M 0) (h : post none (c_gd M s)) : zz_T G md_Wo_giveDue [.inr (.inr (4, 0, 0)), .inl a] M post := by
  refine en_Wo_giveDue hG rfl (fun Z ok => ?_)
  subst ea
  have es := ni_e5 hs
  have hn := hw (6 + s) (by omega)
  have hj := zz_rlo hs
  unfold c_gd at h
  have lp12 : ∀ (f k : Nat), rn M 0 (6 + s) - k < f → k ≤ rn M 0 (6 + s) → ∀ (x3 : Int32) (M' : zM), x3 = nI k → M'.1 (1, 0, 6 + s) 1 = nI (rn M 0 (6 + s)) → c_gl s (rn M 0 (6 + s)) 0 M = c_gl s (rn M 0 (6 + s) - k) k M' → wr M' 0 → zz_W G Z md_Wo_giveDue post 12 [(3, .inl x3), (2, .inr (.inr (1, 0, 6 + s))), (1, .inl (nI s)), (0, .inr (.inr (4, 0, 0)))] [] M' := by
    intro f
    induction f with
    | zero => intro k hf; exact absurd hf (Nat.not_lt_zero _)
    | succ f ih => ?_
    intro k hf hk x3 M' e3 hz' hgl hw'
    subst e3
    refine zz_b ok rfl trivial rfl (fun h17 => ?_) (fun h17 => ?_)
    · skip
      try simp only [es] at h17 ⊢
      rw [hz', ni_ltn (by omega) (by omega)] at h17
      refine zz_cV ok rfl trivial rfl lk_Wo_92 ca_Ro_get rfl rfl rfl rfl rfl (sp_Ro_get hG hz' hn.2 (c := 2) rfl (by decide) ?_)
      try simp only [es]
      refine zz_cV ok rfl trivial rfl lk_Wo_96 ca_Wo_earliest rfl rfl rfl rfl rfl (sp_Wo_earliest hG rfl hs ?_)
      try simp only [es]
      refine zz_b ok rfl trivial rfl (fun h31 => ?_) (fun h31 => ?_)
      · skip
        try simp only [es] at h31 ⊢
        rw [ro_get_in hz' hn.2 rfl (by omega)] at h31
        refine zz_cV ok rfl trivial rfl lk_Wo_92 ca_Ro_get rfl rfl rfl rfl rfl (sp_Ro_get hG hz' hn.2 (c := 1) rfl (by decide) ?_)
        try simp only [es]
        refine zz_cV ok rfl trivial rfl lk_Wo_92 ca_Ro_get rfl rfl rfl rfl rfl (sp_Ro_get hG hz' hn.2 (c := 2) rfl (by decide) ?_)
        try simp only [es]
        refine zz_cV ok rfl trivial rfl lk_Wo_99 ca_Wo_keepGiven rfl rfl rfl rfl rfl (sp_Wo_keepGiven hG hw' ?_)
        try simp only [es]
        refine zz_g ok rfl trivial ?_
        refine zz_pm [3, 2, 1, 0] rfl ?_
        exact ih (k + 1) (by omega) (by omega) _ _ (nI_1 k) (by rw [c_kg_sz (by omega)]; exact hz') (by rw [hgl, show rn M 0 (6 + s) - k = (rn M 0 (6 + s) - (k + 1)) + 1 by omega, c_gl, if_pos h31, ro_get_in hz' hn.2 rfl (by omega), ro_get_in hz' hn.2 rfl (by omega)]) (c_kg_wr hw')
      · skip
        try simp only [es] at h31 ⊢
        rw [ro_get_in hz' hn.2 rfl (by omega)] at h31
        have hX : c_gl s (rn M 0 (6 + s)) 0 M = (M', k) := by
          rw [hgl, show rn M 0 (6 + s) - k = (rn M 0 (6 + s) - (k + 1)) + 1 by omega, c_gl, if_neg h31]
        refine zz_cV ok rfl trivial rfl lk_Wo_103 ca_Ro_dropFirst rfl rfl rfl rfl rfl (sp_Ro_dropFirst hG hz' hn.2 (k := k) rfl (by omega) ?_)
        try simp only [es]
        refine zz_v ok rfl trivial rfl rfl ?_
        exact zz_pq h rfl (by rw [hX])
    · skip
      try simp only [es] at h17 ⊢
      rw [hz', ni_ltn (by omega) (by omega)] at h17
      have hX : c_gl s (rn M 0 (6 + s)) 0 M = (M', k) := by
        rw [hgl, show rn M 0 (6 + s) - k = 0 by omega]; rfl
      refine zz_cV ok rfl trivial rfl lk_Wo_103 ca_Ro_dropFirst rfl rfl rfl rfl rfl (sp_Ro_dropFirst hG hz' hn.2 (k := k) rfl (by omega) ?_)
      try simp only [es]
      refine zz_v ok rfl trivial rfl rfl ?_
      exact zz_pq h rfl (by rw [hX])
  refine zz_g ok rfl (by and_intros <;> first | trivial | exact ni_5 hs) ?_
  refine zz_pm [3, 2, 1, 0] rfl ?_
  simp only [es]
  exact lp12 (rn M 0 (6 + s) + 1) 0 (by omega) (by omega) _ _ rfl hn.1 rfl hw
theorem sp_Wo_tick {G : zG} {post : Option zV → zM → Prop} {M : zM} (hG : zz_go G) (hw : wr M 0) (h : post none (c_tk M)) : zz_T G md_Wo_tick [.inr (.inr (4, 0, 0))] M post := by
  refine en_Wo_tick hG rfl (fun Z ok => ?_)
  unfold c_tk at h
  have lp12 : ∀ (f k : Nat), 5 - k < f → k ≤ 5 → ∀ (x1 : Int32) (M' : zM), x1 = nI k → M' = zz_it c_tk1 k (zz_set M (4, 0, 0) 9 (M.1 (4, 0, 0) 9 + 1)) → wr M' 0 → zz_W G Z md_Wo_tick post 12 [(1, .inl x1), (0, .inr (.inr (4, 0, 0)))] [] M' := by
    intro f
    induction f with
    | zero => intro k hf; exact absurd hf (Nat.not_lt_zero _)
    | succ f ih => ?_
    intro k hf hk x1 M' e1 eM hw'
    subst e1
    refine zz_b ok rfl trivial rfl (fun h14 => ?_) (fun h14 => ?_)
    · skip
      rw [ni_lit, ni_ltn (by omega) (by decide)] at h14
      refine zz_b ok rfl ⟨ni_5 (by omega), trivial⟩ rfl (fun h26 => ?_) (fun h26 => ?_)
      · skip
        rw [zz_ixn (by omega)] at h26
        refine zz_cV ok rfl trivial rfl lk_Wo_83 ca_Wo_giveDue rfl rfl rfl rfl rfl (sp_Wo_giveDue hG rfl (by omega) hw' ?_)
        refine zz_g ok rfl trivial ?_
        refine zz_pm [1, 0] rfl ?_
        exact ih (k + 1) (by omega) (by omega) _ _ (nI_1 k) (by rw [zz_it, ← eM, c_tk1, if_pos h26]) (c_gd_wr (by omega) hw')
      · skip
        rw [zz_ixn (by omega)] at h26
        refine zz_g ok rfl trivial ?_
        refine zz_pm [1, 0] rfl ?_
        exact ih (k + 1) (by omega) (by omega) _ _ (nI_1 k) (by rw [zz_it, ← eM, c_tk1, if_neg h26]) hw'
    · skip
      rw [ni_lit, ni_ltn (by omega) (by decide)] at h14
      have hk5 : k = 5 := by omega
      subst hk5
      refine zz_v ok rfl trivial rfl rfl ?_
      exact zz_pq h rfl eM
  refine zz_g ok rfl trivial ?_
  refine zz_pm [1, 0] rfl ?_
  exact lp12 6 0 (by omega) (by omega) _ _ rfl rfl (wr_set rfl hw)
theorem sp_Wo_isTooOldFor {G : zG} {post : Option zV → zM → Prop} {M : zM} {s v : Nat} {a b : Int32} (hG : zz_go G) (ea : a = nI s) (hs : s < 5) (eb : b = nI v) (hv : v < 5) {t : Int32} (h : post (some (.inl (zz_bi (c_too M s v t)))) M) : zz_T G md_Wo_isTooOldFor [.inr (.inr (4, 0, 0)), .inl a, .inl b, .inl t] M post := by
  refine en_Wo_isTooOldFor hG rfl (fun Z ok => ?_)
  subst ea; subst eb
  have es := ni_e5 hs
  have ev := ni_e5 hv
  refine zz_b ok rfl trivial rfl (fun h2 => ?_) (fun h2 => ?_)
  · skip
    try simp only [es, ev] at h2 ⊢
    rw [ni_eqn (by omega) (by omega)] at h2
    refine zz_z ok rfl trivial rfl rfl (by first | exact Or.inl rfl | exact Or.inr rfl | exact zz_bi01 _) ?_
    exact zz_pq h (by simp [c_too, zz_bi, h2]) rfl
  · skip
    try simp only [es, ev] at h2 ⊢
    rw [ni_eqn (by omega) (by omega)] at h2
    refine zz_b ok rfl (by and_intros <;> first | trivial | exact ni_5 hs | exact ni_5 hv) rfl (fun h15 => ?_) (fun h15 => ?_)
    · skip
      try simp only [es, ev] at h15 ⊢
      refine zz_z ok rfl trivial rfl rfl (by first | exact Or.inl rfl | exact Or.inr rfl | exact zz_bi01 _) ?_
      exact zz_pq h (by simp [c_too, zz_bi, h2, h15]) rfl
    · skip
      try simp only [es, ev] at h15 ⊢
      refine zz_z ok rfl trivial rfl rfl (by first | exact Or.inl rfl | exact Or.inr rfl | exact zz_bi01 _) ?_
      exact zz_pq h (by simp [c_too, zz_bi, h2, h15]) rfl
theorem sp_Wo_ticksBound {G : zG} {post : Option zV → zM → Prop} {M : zM} {s v : Nat} {a b : Int32} (hG : zz_go G) (ea : a = nI s) (hs : s < 5) (eb : b = nI v) (hv : v < 5) (h : post (some (.inl (c_tb M s v))) M) : zz_T G md_Wo_ticksBound [.inr (.inr (4, 0, 0)), .inl a, .inl b] M post := by
  refine en_Wo_ticksBound hG rfl (fun Z ok => ?_)
  subst ea; subst eb
  have es := ni_e5 hs
  have ev := ni_e5 hv
  refine zz_b ok rfl (by and_intros <;> first | trivial | exact ni_5 hs | exact ni_5 hv) rfl (fun h14 => ?_) (fun h14 => ?_)
  · skip
    try simp only [es, ev] at h14 ⊢
    refine zz_i ok rfl trivial rfl rfl ?_
    exact zz_pq h (by simp [c_tb, h14]) rfl
  · skip
    try simp only [es, ev] at h14 ⊢
    refine zz_b ok rfl trivial rfl (fun h22 => ?_) (fun h22 => ?_)
    · skip
      try simp only [es, ev] at h22 ⊢
      refine zz_i ok rfl trivial rfl rfl ?_
      exact zz_pq h (by simp [c_tb, h14, h22]) rfl
    · skip
      try simp only [es, ev] at h22 ⊢
      refine zz_cV ok rfl trivial rfl lk_Wo_96 ca_Wo_earliest rfl rfl rfl rfl rfl (sp_Wo_earliest hG rfl hv ?_)
      try simp only [es, ev]
      refine zz_i ok rfl trivial rfl rfl ?_
      exact zz_pq h (by simp [c_tb, h14, h22]) rfl
theorem sp_Wo_answer {G : zG} {post : Option zV → zM → Prop} {M : zM} {s v : Nat} {a b : Int32} (hG : zz_go G) (ea : a = nI s) (hs : s < 5) (eb : b = nI v) (hv : v < 5) {tr lc : Bool} {t1 l1 : Int32} (et : t1 = zz_bi tr) (el : l1 = zz_bi lc) (hw : wr M 0) (h : post (some (.inl (c_an M s v tr lc))) M) : zz_T G md_Wo_answer [.inr (.inr (4, 0, 0)), .inl a, .inl b, .inl t1, .inl l1] M post := by
  refine en_Wo_answer hG rfl (fun Z ok => ?_)
  subst ea; subst eb
  have es := ni_e5 hs
  have ev := ni_e5 hv
  subst et; subst el
  have hns := hw s (by omega)
  have hnv := hw v (by omega)
  refine zz_cV ok rfl trivial rfl lk_Wo_146 ca_Wo_isReached rfl rfl rfl rfl rfl (sp_Wo_isReached hG rfl hs rfl hv ?_)
  try simp only [es, ev]
  refine zz_b ok rfl trivial rfl (fun h6 => ?_) (fun h6 => ?_)
  · skip
    try simp only [es, ev] at h6 ⊢
    try simp only [zz_bi0, Bool.not_eq_false] at h6
    refine zz_i ok rfl trivial rfl rfl ?_
    exact zz_pq h (by simp [c_an, c_rec, h6]) rfl
  · skip
    try simp only [es, ev] at h6 ⊢
    try simp only [zz_bi0, Bool.not_eq_false] at h6
    refine zz_b ok rfl trivial rfl (fun h12 => ?_) (fun h12 => ?_)
    · skip
      try simp only [es, ev] at h12 ⊢
      try simp only [zz_bi0, Bool.not_eq_false] at h12
      refine zz_cV ok rfl trivial rfl lk_Wo_150 ca_Wo_ticksBound rfl rfl rfl rfl rfl (sp_Wo_ticksBound hG rfl hs rfl hv ?_)
      try simp only [es, ev]
      refine zz_b ok rfl trivial rfl (fun h23 => ?_) (fun h23 => ?_)
      · skip
        try simp only [es, ev] at h23 ⊢
        try simp only [zz_bi0, Bool.not_eq_false] at h23
        refine zz_i ok rfl trivial rfl rfl ?_
        exact zz_pq h (by simp [c_an, c_rec, h6, h12, h23]) rfl
      · skip
        try simp only [es, ev] at h23 ⊢
        try simp only [zz_bi0, Bool.not_eq_false] at h23
        refine zz_b ok rfl trivial rfl (fun h30 => ?_) (fun h30 => ?_)
        · skip
          try simp only [es, ev] at h30 ⊢
          try simp only [zz_bi0, Bool.not_eq_false] at h30
          refine zz_i ok rfl trivial rfl rfl ?_
          exact zz_pq h (by simp [c_an, c_rec, h6, h12, h23, h30]) rfl
        · skip
          try simp only [es, ev] at h30 ⊢
          try simp only [zz_bi0, Bool.not_eq_false] at h30
          refine zz_cV ok rfl (by and_intros <;> first | trivial | exact ni_5 hs | exact ni_5 hv) rfl lk_Wo_156 ca_Lo_isAtLeastAsRecentAs rfl rfl rfl rfl rfl (sp_Lo_isAtLeastAsRecentAs (n := rn M 0 s) (n2 := rn M 0 v) hG (by rw [es]; exact hns.1) (by rw [es]; exact hns.2) (by rw [ev]; exact hnv.1) (by rw [ev]; exact hnv.2) ?_)
          try simp only [es, ev]
          refine zz_b ok rfl trivial rfl (fun h54 => ?_) (fun h54 => ?_)
          · skip
            try simp only [es, ev] at h54 ⊢
            try simp only [zz_bi0, Bool.not_eq_false] at h54
            refine zz_i ok rfl trivial rfl rfl ?_
            exact zz_pq h (by simp [c_an, c_rec, h6, h12, h23, h30, h54]) rfl
          · skip
            try simp only [es, ev] at h54 ⊢
            try simp only [zz_bi0, Bool.not_eq_false] at h54
            refine zz_i ok rfl trivial rfl rfl ?_
            exact zz_pq h (by simp [c_an, c_rec, h6, h12, h23, h30, h54]) rfl
    · skip
      try simp only [es, ev] at h12 ⊢
      try simp only [zz_bi0, Bool.not_eq_false] at h12
      refine zz_i ok rfl trivial rfl rfl ?_
      exact zz_pq h (by simp [c_an, c_rec, h6, h12]) rfl
theorem sp_Wo_accepts {G : zG} {post : Option zV → zM → Prop} {M : zM} {s v : Nat} {a b : Int32} (hG : zz_go G) (ea : a = nI s) (hs : s < 5) (eb : b = nI v) (hv : v < 5) (h : post (some (.inl (zz_bi (c_ac M s v)))) M) : zz_T G md_Wo_accepts [.inr (.inr (4, 0, 0)), .inl a, .inl b] M post := by
  refine en_Wo_accepts hG rfl (fun Z ok => ?_)
  subst ea; subst eb
  have es := ni_e5 hs
  have ev := ni_e5 hv
  refine zz_cV ok rfl trivial rfl lk_Wo_146 ca_Wo_isReached rfl rfl rfl rfl rfl (sp_Wo_isReached hG rfl hs rfl hv ?_)
  try simp only [es, ev]
  refine zz_b ok rfl trivial rfl (fun h6 => ?_) (fun h6 => ?_)
  · skip
    try simp only [es, ev] at h6 ⊢
    try simp only [zz_bi0, Bool.not_eq_false] at h6
    refine zz_z ok rfl trivial rfl rfl (by first | exact Or.inl rfl | exact Or.inr rfl | exact zz_bi01 _) ?_
    exact zz_pq h (by simp [c_ac, zz_bi, h6]) rfl
  · skip
    try simp only [es, ev] at h6 ⊢
    try simp only [zz_bi0, Bool.not_eq_false] at h6
    refine zz_b ok rfl (by and_intros <;> first | trivial | exact ni_5 hs | exact ni_5 hv) rfl (fun h27 => ?_) (fun h27 => ?_)
    · skip
      try simp only [es, ev] at h27 ⊢
      try simp only [zz_bi0, Bool.not_eq_false] at h27
      refine zz_z ok rfl trivial rfl rfl (by first | exact Or.inl rfl | exact Or.inr rfl | exact zz_bi01 _) ?_
      exact zz_pq h (by simp [c_ac, zz_bi, h6, h27]) rfl
    · skip
      try simp only [es, ev] at h27 ⊢
      try simp only [zz_bi0, Bool.not_eq_false] at h27
      refine zz_z ok rfl trivial rfl rfl (by first | exact Or.inl rfl | exact Or.inr rfl | exact zz_bi01 _) ?_
      exact zz_pq h (by simp [c_ac, zz_bi, h6, h27]) rfl
theorem i_vc : Claimed_1_1 ∧ Claimed_1_2 := sorry
