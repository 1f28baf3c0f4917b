def lo_last (M : zM) (w s c p : Nat) : Int32 := if c = 0 then -1000 else M.1 (7, w, s) (4 * (c - 1) + p)
def lo_rec (M : zM) (w s n w2 s2 n2 : Nat) : Bool := decide (ro_last M w2 s2 n2 0 0 < ro_last M w s n 0 0) || (decide (ro_last M w s n 0 0 = ro_last M w2 s2 n2 0 0) && decide (n2 ≤ n))
def lo_stamp (M : zM) (w s n : Nat) (la : Int32) : Int32 := if la < ro_last M w s n 3 (la - 1) + 1 then ro_last M w s n 3 (la - 1) + 1 else la
def lo_app (M : zM) (w s n : Nat) (t k v la : Int32) : zM := ro_add M w s n t k v (lo_stamp M w s n la)
def lo_lv (M : zM) (w s : Nat) (key time : Int32) : Nat → Int32
  | 0 => -1000
  | i + 1 => if M.1 (7, w, s) (4 * i + 1) = key ∧ ¬ time < M.1 (7, w, s) (4 * i + 3) then M.1 (7, w, s) (4 * i + 2) else lo_lv M w s key time i
def lo_vo (M : zM) (w s : Nat) (key idx : Int32) : Nat → Nat → Int32 → Int32
  | 0, _, _ => -1000
  | f + 1, i, fd => if M.1 (7, w, s) (4 * i + 1) = key then (if fd = idx then M.1 (7, w, s) (4 * i + 2) else lo_vo M w s key idx f (i + 1) (fd + 1)) else lo_vo M w s key idx f (i + 1) fd
def lo_or (M : zM) (w s : Nat) : Nat → Nat → Bool
  | 0, _ => true
  | f + 1, i => if M.1 (7, w, s) (4 * i) < M.1 (7, w, s) (4 * (i - 1)) ∨ ¬ M.1 (7, w, s) (4 * (i - 1) + 3) < M.1 (7, w, s) (4 * i + 3) then false else lo_or M w s f (i + 1)
def lo_copy (M : zM) (w s w2 s2 n : Nat) : zM := zz_set (ro_copy M w s w2 s2 n) (0, w, s) 1 (M.1 (0, w2, s2) 1)
def se_pp (M : zM) (w s : Nat) (a b : Int32) : zM := zz_set (zz_set M (3, w, s) 5 a) (3, w, s) 6 b
def se_pl (M : zM) (w s : Nat) (a b : Int32) : zM := zz_set (zz_set M (3, w, s) 7 a) (3, w, s) 8 b
def se_enter (M : zM) (w s : Nat) (x : Int32) : zM := if x = 2 then zz_set (se_pl (zz_set M (3, w, s) 3 x) w s (-1000) (-1000)) (1, w, 6 + s) 1 0 else zz_set M (3, w, s) 3 x
def se_copy (M : zM) (w s w2 s2 n k : Nat) : zM :=
  let A := ro_copy (lo_copy M w s w2 s2 n) w (6 + s) w2 (6 + s2) k
  let B := zz_set (zz_set (zz_set A (3, w, s) 2 (A.1 (3, w2, s2) 2)) (3, w, s) 3 (A.1 (3, w2, s2) 3)) (3, w, s) 4 (A.1 (3, w2, s2) 4)
  se_pl (se_pp B w s (A.1 (3, w2, s2) 5) (A.1 (3, w2, s2) 6)) w s (A.1 (3, w2, s2) 7) (A.1 (3, w2, s2) 8)
theorem ro_get_in {M : zM} {w j n c k : Nat} {row : Int32} (hz : M.1 (1, w, j) 1 = nI n) (hn : n * 4 ≤ zz_rl j) (e : row = nI k) (hk : k < n) : ro_get M w j row c = M.1 (7, w, j) (4 * k + c) := by
  have hj := zz_rl_le j
  subst e
  unfold ro_get
  rw [if_neg, zz_ixn (by omega)]
  rw [hz, ni_ltn (by omega) (by omega)]
  exact fun h => h.elim (nI_pos (by omega)) (fun h => h hk)
theorem sp_Lo_lastCommitted {G : zG} {post : Option zV → zM → Prop} {M : zM} {w s n c p : Nat} (hG : zz_go G) (hz : M.1 (1, w, s) 1 = nI n) (hn : n * 4 ≤ zz_rl s) (hcm : M.1 (0, w, s) 1 = nI c) (hcn : c ≤ n) {pp : Int32} (ep : pp = nI p) (hp : p < 4) (h : post (some (.inl (lo_last M w s c p))) M) : zz_T G md_Lo_lastCommitted [.inr (.inr (0, w, s)), .inl pp] M post := by
  refine en_Lo_lastCommitted hG rfl (fun Z ok => ?_)
  have hj := zz_rl_le s
  unfold lo_last at h
  refine zz_b ok rfl trivial rfl (fun h4 => ?_) (fun h4 => ?_)
  · skip
    have hc0 : c = 0 := by
      rw [hcm, ni_lit, ni_eqn (by omega) (by decide)] at h4; exact h4
    refine zz_i ok rfl trivial rfl rfl ?_
    rw [if_pos hc0] at h
    exact h
  · skip
    have hc0 : ¬ c = 0 := by
      intro e; subst e; exact h4 hcm
    refine zz_cV ok rfl trivial rfl lk_Lo_24 ca_Ro_get rfl rfl rfl rfl rfl (sp_Ro_get hG hz hn ep hp ?_)
    refine zz_i ok rfl trivial rfl rfl ?_
    rw [if_neg hc0] at h
    exact zz_pq h (by rw [ro_get_in hz hn (k := c - 1) (by rw [hcm, ni_lit, ni_subn (by omega)]) (by omega)]) rfl
theorem sp_Lo_isAtLeastAsRecentAs {G : zG} {post : Option zV → zM → Prop} {M : zM} {w s n w2 s2 n2 : Nat} (hG : zz_go G) (hz : M.1 (1, w, s) 1 = nI n) (hn : n * 4 ≤ zz_rl s) (hz2 : M.1 (1, w2, s2) 1 = nI n2) (hn2 : n2 * 4 ≤ zz_rl s2) (h : post (some (.inl (zz_bi (lo_rec M w s n w2 s2 n2)))) M) : zz_T G md_Lo_isAtLeastAsRecentAs [.inr (.inr (0, w, s)), .inr (.inr (0, w2, s2))] M post := by
  refine en_Lo_isAtLeastAsRecentAs hG rfl (fun Z ok => ?_)
  have hj := zz_rl_le s
  have hj2 := zz_rl_le s2
  unfold lo_rec at h
  refine zz_cV ok rfl trivial rfl lk_Lo_28 ca_Ro_lastOr rfl rfl rfl rfl rfl (sp_Ro_lastOr hG hz hn (c := 0) rfl (by decide) ?_)
  refine zz_cV ok rfl trivial rfl lk_Lo_28 ca_Ro_lastOr rfl rfl rfl rfl rfl (sp_Ro_lastOr hG hz2 hn2 (c := 0) rfl (by decide) ?_)
  refine zz_b ok rfl trivial rfl (fun h22 => ?_) (fun h22 => ?_)
  · skip
    refine zz_z ok rfl trivial rfl rfl (by first | exact Or.inl rfl | exact Or.inr rfl | exact zz_bi01 _) ?_
    exact zz_pq h (by simp [h22, zz_bi]; try omega) rfl
  · skip
    refine zz_b ok rfl trivial rfl (fun h27 => ?_) (fun h27 => ?_)
    · skip
      refine zz_b ok rfl trivial rfl (fun h44 => ?_) (fun h44 => ?_)
      · skip
        rw [hz, hz2, ni_ltn (by omega) (by omega)] at h44
        have h44 : ¬ n2 ≤ n := by omega
        refine zz_z ok rfl trivial rfl rfl (by first | exact Or.inl rfl | exact Or.inr rfl | exact zz_bi01 _) ?_
        exact zz_pq h (by simp [h22, h27, h44, zz_bi]; try omega) rfl
      · skip
        rw [hz, hz2, ni_ltn (by omega) (by omega)] at h44
        have h44 : n2 ≤ n := by omega
        refine zz_z ok rfl trivial rfl rfl (by first | exact Or.inl rfl | exact Or.inr rfl | exact zz_bi01 _) ?_
        exact zz_pq h (by simp [h22, h27, h44, zz_bi]; try omega) rfl
    · skip
      refine zz_z ok rfl trivial rfl rfl (by first | exact Or.inl rfl | exact Or.inr rfl | exact zz_bi01 _) ?_
      exact zz_pq h (by simp [h22, h27, zz_bi]; try omega) rfl
theorem sp_Lo_append {G : zG} {post : Option zV → zM → Prop} {M : zM} {w s n : Nat} (hG : zz_go G) (hz : M.1 (1, w, s) 1 = nI n) (hn : n * 4 ≤ zz_rl s) {t k v la : Int32} (h : post none (lo_app M w s n t k v la)) : zz_T G md_Lo_append [.inr (.inr (0, w, s)), .inl t, .inl k, .inl v, .inl la] M post := by
  refine en_Lo_append hG rfl (fun Z ok => ?_)
  have hj := zz_rl_le s
  unfold lo_app at h
  refine zz_cV ok rfl trivial rfl lk_Lo_28 ca_Ro_lastOr rfl rfl rfl rfl rfl (sp_Ro_lastOr hG hz hn (c := 3) rfl (by decide) ?_)
  refine zz_cV ok rfl trivial rfl lk_Lo_39 ca_Ro_add rfl rfl rfl rfl rfl (sp_Ro_add hG hz hn ?_)
  refine zz_v ok rfl trivial rfl rfl ?_
  exact h
theorem sp_Lo_lastValue {G : zG} {post : Option zV → zM → Prop} {M : zM} {w s n c : Nat} (hG : zz_go G) (hz : M.1 (1, w, s) 1 = nI n) (hn : n * 4 ≤ zz_rl s) (hcm : M.1 (0, w, s) 1 = nI c) (hcn : c ≤ n) {key time : Int32} (h : post (some (.inl (lo_lv M w s key time c))) M) : zz_T G md_Lo_lastValue [.inr (.inr (0, w, s)), .inl key, .inl time] M post := by
  refine en_Lo_lastValue hG rfl (fun Z ok => ?_)
  have hj := zz_rl_le s
  have lp7 : ∀ (k : Nat), k ≤ c → ∀ (x3 : Int32), x3 = nI k - 1 → lo_lv M w s key time c = lo_lv M w s key time k → zz_W G Z md_Lo_lastValue post 7 [(3, .inl x3), (2, .inl time), (1, .inl key), (0, .inr (.inr (0, w, s)))] [] M := by
    intro k
    induction k with
    | zero => ?_
    | succ k ih => ?_
    · intro hk x3 e3 hlv
      subst e3
      refine zz_b ok rfl trivial rfl (fun h8 => ?_) (fun h8 => ?_)
      · refine zz_i ok rfl trivial rfl rfl ?_
        exact zz_pq h (by rw [hlv]; rfl) rfl
      · exact absurd (by decide) h8
    intro hk x3 e3 hlv
    rw [nI_pred] at e3
    subst e3
    refine zz_b ok rfl trivial rfl (fun h8 => ?_) (fun h8 => ?_)
    · skip
      exact absurd h8 (nI_pos (by omega))
    · skip
      refine zz_cV ok rfl trivial rfl lk_Lo_24 ca_Ro_get rfl rfl rfl rfl rfl (sp_Ro_get hG hz hn (c := 1) rfl (by decide) ?_)
      refine zz_b ok rfl trivial rfl (fun h21 => ?_) (fun h21 => ?_)
      · skip
        rw [ro_get_in hz hn rfl (by omega)] at h21
        refine zz_cV ok rfl trivial rfl lk_Lo_24 ca_Ro_get rfl rfl rfl rfl rfl (sp_Ro_get hG hz hn (c := 3) rfl (by decide) ?_)
        refine zz_b ok rfl trivial rfl (fun h34 => ?_) (fun h34 => ?_)
        · skip
          rw [ro_get_in hz hn rfl (by omega)] at h34
          refine zz_g ok rfl trivial ?_
          refine zz_pm [3, 2, 1, 0] rfl ?_
          exact ih (by omega) _ (Int32.sub_eq_add_neg _ _).symm (by rw [hlv, lo_lv, if_neg (fun q => q.2 h34)])
        · skip
          rw [ro_get_in hz hn rfl (by omega)] at h34
          refine zz_cV ok rfl trivial rfl lk_Lo_24 ca_Ro_get rfl rfl rfl rfl rfl (sp_Ro_get hG hz hn (c := 2) rfl (by decide) ?_)
          refine zz_i ok rfl trivial rfl rfl ?_
          exact zz_pq h (by rw [hlv, lo_lv, if_pos ⟨h21, h34⟩, ro_get_in hz hn rfl (by omega)]) rfl
      · skip
        rw [ro_get_in hz hn rfl (by omega)] at h21
        refine zz_g ok rfl trivial ?_
        refine zz_pm [3, 2, 1, 0] rfl ?_
        exact ih (by omega) _ (Int32.sub_eq_add_neg _ _).symm (by rw [hlv, lo_lv, if_neg (fun q => h21 q.1)])
  refine zz_g ok rfl trivial ?_
  refine zz_pm [3, 2, 1, 0] rfl ?_
  exact lp7 c (Nat.le_refl _) _ (by rw [hcm]) rfl
theorem sp_Lo_valueOf {G : zG} {post : Option zV → zM → Prop} {M : zM} {w s n c : Nat} (hG : zz_go G) (hz : M.1 (1, w, s) 1 = nI n) (hn : n * 4 ≤ zz_rl s) (hcm : M.1 (0, w, s) 1 = nI c) (hcn : c ≤ n) {key idx : Int32} (h : post (some (.inl (lo_vo M w s key idx c 0 0))) M) : zz_T G md_Lo_valueOf [.inr (.inr (0, w, s)), .inl key, .inl idx] M post := by
  refine en_Lo_valueOf hG rfl (fun Z ok => ?_)
  have hj := zz_rl_le s
  have lp5 : ∀ (f k : Nat), c - k < f → k ≤ c → ∀ (x4 x3 : Int32), x4 = nI k → lo_vo M w s key idx c 0 0 = lo_vo M w s key idx (c - k) k x3 → zz_W G Z md_Lo_valueOf post 5 [(4, .inl x4), (3, .inl x3), (2, .inl idx), (1, .inl key), (0, .inr (.inr (0, w, s)))] [] M := by
    intro f
    induction f with
    | zero => intro k hf; exact absurd hf (Nat.not_lt_zero _)
    | succ f ih => ?_
    intro k hf hk x4 x3 e4 hvo
    subst e4
    refine zz_b ok rfl trivial rfl (fun h11 => ?_) (fun h11 => ?_)
    · skip
      rw [hcm, ni_ltn (by omega) (by omega)] at h11
      refine zz_cV ok rfl trivial rfl lk_Lo_24 ca_Ro_get rfl rfl rfl rfl rfl (sp_Ro_get hG hz hn (c := 1) rfl (by decide) ?_)
      refine zz_b ok rfl trivial rfl (fun h25 => ?_) (fun h25 => ?_)
      · skip
        rw [ro_get_in hz hn rfl (by omega)] at h25
        refine zz_b ok rfl trivial rfl (fun h30 => ?_) (fun h30 => ?_)
        · skip
          refine zz_cV ok rfl trivial rfl lk_Lo_24 ca_Ro_get rfl rfl rfl rfl rfl (sp_Ro_get hG hz hn (c := 2) rfl (by decide) ?_)
          refine zz_i ok rfl trivial rfl rfl ?_
          exact zz_pq h (by rw [hvo, show c - k = (c - (k + 1)) + 1 by omega, lo_vo, if_pos h25, if_pos h30, ro_get_in hz hn rfl (by omega)]) rfl
        · skip
          refine zz_g ok rfl trivial ?_
          refine zz_pm [4, 3, 2, 1, 0] rfl ?_
          exact ih (k + 1) (by omega) (by omega) _ _ (nI_1 k) (by rw [hvo, show c - k = (c - (k + 1)) + 1 by omega, lo_vo, if_pos h25, if_neg h30])
      · skip
        rw [ro_get_in hz hn rfl (by omega)] at h25
        refine zz_g ok rfl trivial ?_
        refine zz_pm [4, 3, 2, 1, 0] rfl ?_
        exact ih (k + 1) (by omega) (by omega) _ _ (nI_1 k) (by rw [hvo, show c - k = (c - (k + 1)) + 1 by omega, lo_vo, if_neg h25])
    · skip
      rw [hcm, ni_ltn (by omega) (by omega)] at h11
      have hk4 : k = c := by omega
      subst hk4
      refine zz_i ok rfl trivial rfl rfl ?_
      exact zz_pq h (by rw [hvo, Nat.sub_self]; rfl) rfl
  refine zz_g ok rfl trivial ?_
  refine zz_pm [4, 3, 2, 1, 0] rfl ?_
  exact lp5 (c + 1) 0 (by omega) (by omega) _ _ rfl rfl
theorem sp_Lo_isOrdered {G : zG} {post : Option zV → zM → Prop} {M : zM} {w s n : Nat} (hG : zz_go G) (hz : M.1 (1, w, s) 1 = nI n) (hn : n * 4 ≤ zz_rl s) (h : post (some (.inl (zz_bi (lo_or M w s (n - 1) 1)))) M) : zz_T G md_Lo_isOrdered [.inr (.inr (0, w, s))] M post := by
  refine en_Lo_isOrdered hG rfl (fun Z ok => ?_)
  have hj := zz_rl_le s
  have lp2 : ∀ (f k : Nat), n - k < f → k ≤ n → ∀ (x1 : Int32), x1 = nI (k + 1) → lo_or M w s (n - 1) 1 = lo_or M w s (n - 1 - k) (k + 1) → zz_W G Z md_Lo_isOrdered post 2 [(1, .inl x1), (0, .inr (.inr (0, w, s)))] [] M := by
    intro f
    induction f with
    | zero => intro k hf; exact absurd hf (Nat.not_lt_zero _)
    | succ f ih => ?_
    intro k hf hkn x1 e1 hor
    subst e1
    refine zz_b ok rfl trivial rfl (fun h10 => ?_) (fun h10 => ?_)
    · skip
      rw [hz, ni_ltn (by omega) (by omega)] at h10
      refine zz_cV ok rfl trivial rfl lk_Lo_24 ca_Ro_get rfl rfl rfl rfl rfl (sp_Ro_get hG hz hn (c := 0) rfl (by decide) ?_)
      refine zz_cV ok rfl trivial rfl lk_Lo_24 ca_Ro_get rfl rfl rfl rfl rfl (sp_Ro_get hG hz hn (c := 0) rfl (by decide) ?_)
      refine zz_b ok rfl trivial rfl (fun h33 => ?_) (fun h33 => ?_)
      · skip
        rw [ro_get_in hz hn (k := k + 1) rfl (by omega), ro_get_in hz hn (k := k) (by rw [ni_lit, ni_subn (by omega)]; rfl) (by omega)] at h33
        refine zz_z ok rfl trivial rfl rfl (by first | exact Or.inl rfl | exact Or.inr rfl | exact zz_bi01 _) ?_
        exact zz_pq h (by rw [hor, show n - 1 - k = (n - 1 - (k + 1)) + 1 by omega, lo_or, if_pos (by first | exact Or.inl h33 | exact Or.inr h56)]; rfl) rfl
      · skip
        rw [ro_get_in hz hn (k := k + 1) rfl (by omega), ro_get_in hz hn (k := k) (by rw [ni_lit, ni_subn (by omega)]; rfl) (by omega)] at h33
        refine zz_cV ok rfl trivial rfl lk_Lo_24 ca_Ro_get rfl rfl rfl rfl rfl (sp_Ro_get hG hz hn (c := 3) rfl (by decide) ?_)
        refine zz_cV ok rfl trivial rfl lk_Lo_24 ca_Ro_get rfl rfl rfl rfl rfl (sp_Ro_get hG hz hn (c := 3) rfl (by decide) ?_)
        refine zz_b ok rfl trivial rfl (fun h56 => ?_) (fun h56 => ?_)
        · skip
          rw [ro_get_in hz hn (k := k) (by rw [ni_lit, ni_subn (by omega)]; rfl) (by omega), ro_get_in hz hn (k := k + 1) rfl (by omega)] at h56
          refine zz_g ok rfl trivial ?_
          refine zz_pm [1, 0] rfl ?_
          exact ih (k + 1) (by omega) (by omega) _ (nI_1 (k + 1)) (by rw [hor, show n - 1 - k = (n - 1 - (k + 1)) + 1 by omega, lo_or, if_neg (by simp only [not_or, Decidable.not_not]; exact ⟨h33, h56⟩)])
        · skip
          rw [ro_get_in hz hn (k := k) (by rw [ni_lit, ni_subn (by omega)]; rfl) (by omega), ro_get_in hz hn (k := k + 1) rfl (by omega)] at h56
          refine zz_z ok rfl trivial rfl rfl (by first | exact Or.inl rfl | exact Or.inr rfl | exact zz_bi01 _) ?_
          exact zz_pq h (by rw [hor, show n - 1 - k = (n - 1 - (k + 1)) + 1 by omega, lo_or, if_pos (by first | exact Or.inl h33 | exact Or.inr h56)]; rfl) rfl
    · skip
      rw [hz] at h10
      refine zz_z ok rfl trivial rfl rfl (by first | exact Or.inl rfl | exact Or.inr rfl | exact zz_bi01 _) ?_
      have hk0 : n - 1 - k = 0 := by
        rcases Nat.lt_or_ge (k + 1) n with q | q
        · exact absurd (nI_lt q (by omega)) h10
        · omega
      exact zz_pq h (by rw [hor, hk0]; rfl) rfl
  refine zz_g ok rfl trivial ?_
  refine zz_pm [1, 0] rfl ?_
  exact lp2 (n + 1) 0 (by omega) (by omega) _ rfl rfl
theorem sp_Lo_copyLog {G : zG} {post : Option zV → zM → Prop} {M : zM} {w s w2 s2 n : Nat} (hG : zz_go G) (hz : M.1 (1, w2, s2) 1 = nI n) (hn : n * 4 ≤ zz_rl s) (hn2 : n * 4 ≤ zz_rl s2) (h : post none (lo_copy M w s w2 s2 n)) : zz_T G md_Lo_copyLog [.inr (.inr (0, w, s)), .inr (.inr (0, w2, s2))] M post := by
  refine en_Lo_copyLog hG rfl (fun Z ok => ?_)
  refine zz_cV ok rfl trivial rfl lk_Lo_43 ca_Ro_copyRows rfl rfl rfl rfl rfl (sp_Ro_copyRows hG hz hn hn2 ?_)
  refine zz_v ok rfl trivial rfl rfl ?_
  exact h
theorem sp_Se_putPromise {G : zG} {post : Option zV → zM → Prop} {M : zM} {w s : Nat} {a b : Int32} (hG : zz_go G) (h : post none (se_pp M w s a b)) : zz_T G md_Se_putPromise [.inr (.inr (3, w, s)), .inl a, .inl b] M post := by
  refine en_Se_putPromise hG rfl (fun Z ok => ?_)
  refine zz_v ok rfl trivial rfl rfl ?_
  exact h
theorem sp_Se_putLease {G : zG} {post : Option zV → zM → Prop} {M : zM} {w s : Nat} {a b : Int32} (hG : zz_go G) (h : post none (se_pl M w s a b)) : zz_T G md_Se_putLease [.inr (.inr (3, w, s)), .inl a, .inl b] M post := by
  refine en_Se_putLease hG rfl (fun Z ok => ?_)
  refine zz_v ok rfl trivial rfl rfl ?_
  exact h
theorem sp_Se_enter {G : zG} {post : Option zV → zM → Prop} {M : zM} {w s : Nat} {x : Int32} (hG : zz_go G) (h : post none (se_enter M w s x)) : zz_T G md_Se_enter [.inr (.inr (3, w, s)), .inl x] M post := by
  refine en_Se_enter hG rfl (fun Z ok => ?_)
  unfold se_enter at h
  refine zz_b ok rfl trivial rfl (fun h7 => ?_) (fun h7 => ?_)
  · skip
    refine zz_cV ok rfl trivial rfl lk_Se_49 ca_Se_putLease rfl rfl rfl rfl rfl (sp_Se_putLease hG ?_)
    refine zz_v ok rfl trivial rfl rfl ?_
    first | (rw [if_pos h7] at h; exact h) | (rw [if_neg h7] at h; exact h)
  · skip
    refine zz_v ok rfl trivial rfl rfl ?_
    first | (rw [if_pos h7] at h; exact h) | (rw [if_neg h7] at h; exact h)
theorem sp_Se_copyServer {G : zG} {post : Option zV → zM → Prop} {M : zM} {w s w2 s2 n k : Nat} (hG : zz_go G) (hz : M.1 (1, w2, s2) 1 = nI n) (hn : n * 4 ≤ zz_rl s) (hn2 : n * 4 ≤ zz_rl s2) (hk0 : (lo_copy M w s w2 s2 n).1 (1, w2, 6 + s2) 1 = nI k) (hk : k * 4 ≤ zz_rl (6 + s)) (hk2 : k * 4 ≤ zz_rl (6 + s2)) (hne : ¬ w2 = w) (h : post none (se_copy M w s w2 s2 n k)) : zz_T G md_Se_copyServer [.inr (.inr (3, w, s)), .inr (.inr (3, w2, s2))] M post := by
  refine en_Se_copyServer hG rfl (fun Z ok => ?_)
  refine zz_cV ok rfl trivial rfl lk_Se_56 ca_Lo_copyLog rfl rfl rfl rfl rfl (sp_Lo_copyLog hG hz hn hn2 ?_)
  refine zz_cV ok rfl trivial rfl lk_Se_60 ca_Ro_copyRows rfl rfl rfl rfl rfl (sp_Ro_copyRows hG hk0 hk hk2 ?_)
  refine zz_cV ok rfl trivial rfl lk_Se_64 ca_Se_putPromise rfl rfl rfl rfl rfl (sp_Se_putPromise hG ?_)
  refine zz_cV ok rfl trivial rfl lk_Se_49 ca_Se_putLease rfl rfl rfl rfl rfl (sp_Se_putLease hG ?_)
  refine zz_v ok rfl trivial rfl rfl ?_
  refine zz_pq h rfl ?_
  simp [se_copy, zz_gs, hne, se_pp, se_pl]
