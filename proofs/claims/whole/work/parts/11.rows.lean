theorem sp_Ro_isFull {G : zG} {post : Option zV → zM → Prop} {M : zM} {w j n : Nat} (hG : zz_go G) (hz : M.1 (1, w, j) 1 = nI n) (hn : n * 4 ≤ zz_rl j) (h : post (some (.inl (zz_bi (decide (zz_rl j < (n + 1) * 4))))) M) : zz_T G md_Ro_isFull [.inr (.inr (1, w, j))] M post := by
  refine en_Ro_isFull hG rfl (fun Z ok => ?_)
  have hj := zz_rl_le j
  refine zz_b ok rfl trivial rfl (fun h13 => ?_) (fun h13 => ?_)
  · skip
    rw [hz] at h13
    simp only [ni_lit, nI_add, ni_mul] at h13
    rw [ni_ltn (by omega) (by omega)] at h13
    refine zz_z ok rfl trivial rfl rfl (by first | exact Or.inl rfl | exact Or.inr rfl | exact zz_bi01 _) ?_
    exact zz_pq h (by simp [h13, zz_bi]) rfl
  · skip
    rw [hz] at h13
    simp only [ni_lit, nI_add, ni_mul] at h13
    rw [ni_ltn (by omega) (by omega)] at h13
    refine zz_z ok rfl trivial rfl rfl (by first | exact Or.inl rfl | exact Or.inr rfl | exact zz_bi01 _) ?_
    exact zz_pq h (by simp [h13, zz_bi]) rfl
theorem sp_Ro_get {G : zG} {post : Option zV → zM → Prop} {M : zM} {w j n c : Nat} (hG : zz_go G) (hz : M.1 (1, w, j) 1 = nI n) (hn : n * 4 ≤ zz_rl j) {row col : Int32} (ec : col = nI c) (hc : c < 4) (h : post (some (.inl (ro_get M w j row c))) M) : zz_T G md_Ro_get [.inr (.inr (1, w, j)), .inl row, .inl col] M post := by
  refine en_Ro_get hG rfl (fun Z ok => ?_)
  have hj := zz_rl_le j
  subst ec
  unfold ro_get at h
  refine zz_b ok rfl trivial rfl (fun h1 => ?_) (fun h1 => ?_)
  · skip
    refine zz_i ok rfl trivial rfl rfl ?_
    exact zz_pq h (by simp [h1]) rfl
  · skip
    refine zz_b ok rfl trivial rfl (fun h9 => ?_) (fun h9 => ?_)
    · skip
      obtain ⟨k, hk, rfl⟩ := ni_ofr hz (by omega) h1 h9
      refine zz_b ok rfl trivial rfl (fun h13 => ?_) (fun h13 => ?_)
      · skip
        exact absurd h13 (nI_pos (by omega))
      · skip
        refine zz_b ok rfl trivial rfl (fun h18 => ?_) (fun h18 => ?_)
        · skip
          refine zz_i ok rfl ⟨ni_inx (n := 4 * k + c) (by simp only [ni_lit, nI_add, ni_mul]; congr 1; omega) (by omega) (by omega), trivial⟩ rfl rfl ?_
          have e1 : nI k * 4 + nI c = nI (4 * k + c) := (by simp only [ni_lit, nI_add, ni_mul]; congr 1; omega)
          rw [if_neg (by simp [h1, h9]), zz_ixn (by omega)] at h
          rw [e1, zz_ixn (by omega)]
          exact h
        · skip
          exact absurd (nI_lt hc (by decide)) h18
    · skip
      refine zz_i ok rfl trivial rfl rfl ?_
      exact zz_pq h (by simp [h1, h9]) rfl
theorem sp_Ro_set {G : zG} {post : Option zV → zM → Prop} {M : zM} {w j n c k : Nat} (hG : zz_go G) (hz : M.1 (1, w, j) 1 = nI n) (hn : n * 4 ≤ zz_rl j) {row col v : Int32} (ek : row = nI k) (hk : k < n) (ec : col = nI c) (hc : c < 4) (h : post none (zz_set M (7, w, j) (4 * k + c) v)) : zz_T G md_Ro_set [.inr (.inr (1, w, j)), .inl row, .inl col, .inl v] M post := by
  refine en_Ro_set hG rfl (fun Z ok => ?_)
  have hj := zz_rl_le j
  subst ec
  subst ek
  refine zz_b ok rfl trivial rfl (fun h1 => ?_) (fun h1 => ?_)
  · skip
    exact absurd h1 (nI_pos (by omega))
  · skip
    refine zz_b ok rfl trivial rfl (fun h9 => ?_) (fun h9 => ?_)
    · skip
      refine zz_b ok rfl trivial rfl (fun h13 => ?_) (fun h13 => ?_)
      · skip
        exact absurd h13 (nI_pos (by omega))
      · skip
        refine zz_b ok rfl trivial rfl (fun h18 => ?_) (fun h18 => ?_)
        · skip
          refine zz_v ok rfl ⟨ni_inx (n := 4 * k + c) (by simp only [ni_lit, nI_add, ni_mul]; congr 1; omega) (by omega) (by omega), trivial⟩ rfl rfl ?_
          have e1 : nI k * 4 + nI c = nI (4 * k + c) := (by simp only [ni_lit, nI_add, ni_mul]; congr 1; omega)
          rw [e1, zz_ixn (by omega)]
          exact h
        · skip
          exact absurd (nI_lt hc (by decide)) h18
    · skip
      exact absurd (by rw [hz]; exact nI_lt hk (by omega)) h9
theorem sp_Ro_lastOr {G : zG} {post : Option zV → zM → Prop} {M : zM} {w j n c : Nat} (hG : zz_go G) (hz : M.1 (1, w, j) 1 = nI n) (hn : n * 4 ≤ zz_rl j) {col ow : Int32} (ec : col = nI c) (hc : c < 4) (h : post (some (.inl (ro_last M w j n c ow))) M) : zz_T G md_Ro_lastOr [.inr (.inr (1, w, j)), .inl col, .inl ow] M post := by
  refine en_Ro_lastOr hG rfl (fun Z ok => ?_)
  have hj := zz_rl_le j
  subst ec
  unfold ro_last at h
  refine zz_b ok rfl trivial rfl (fun h4 => ?_) (fun h4 => ?_)
  · skip
    have hn0 : n = 0 := by
      rw [hz, ni_lit, ni_eqn (by omega) (by decide)] at h4; exact h4
    refine zz_i ok rfl trivial rfl rfl ?_
    exact zz_pq h (by simp [hn0]) rfl
  · skip
    have hn0 : ¬ n = 0 := by
      intro e; subst e; exact h4 hz
    refine zz_b ok rfl trivial rfl (fun h8 => ?_) (fun h8 => ?_)
    · skip
      exact absurd h8 (nI_pos (by omega))
    · skip
      refine zz_b ok rfl trivial rfl (fun h13 => ?_) (fun h13 => ?_)
      · skip
        refine zz_i ok rfl ⟨ni_inx (n := 4 * (n - 1) + c) (by rw [hz]; simp only [ni_lit]; rw [ni_subn (by omega)]; simp only [nI_add, ni_mul]; congr 1; omega) (by omega) (by omega), trivial⟩ rfl rfl ?_
        have e1 : (M.1 (1, w, j) 1 - 1) * 4 + nI c = nI (4 * (n - 1) + c) := by
          rw [hz]; simp only [ni_lit]; rw [ni_subn (by omega)]; simp only [nI_add, ni_mul]; congr 1; omega
        rw [e1, zz_ixn (by omega)]
        rw [if_neg hn0] at h
        exact h
      · skip
        exact absurd (nI_lt hc (by decide)) h13
theorem sp_Ro_add {G : zG} {post : Option zV → zM → Prop} {M : zM} {w j n : Nat} (hG : zz_go G) (hz : M.1 (1, w, j) 1 = nI n) (hn : n * 4 ≤ zz_rl j) {a b c d : Int32} (h : post none (ro_add M w j n a b c d)) : zz_T G md_Ro_add [.inr (.inr (1, w, j)), .inl a, .inl b, .inl c, .inl d] M post := by
  refine en_Ro_add hG rfl (fun Z ok => ?_)
  have hj := zz_rl_le j
  unfold ro_add at h
  refine zz_cV ok rfl trivial rfl lk_Ro_25 ca_Ro_isFull rfl rfl rfl rfl rfl (sp_Ro_isFull hG hz hn ?_)
  refine zz_b ok rfl trivial rfl (fun h4 => ?_) (fun h4 => ?_)
  · skip
    simp only [zz_bi0, decide_eq_true_eq, decide_eq_false_iff_not, Bool.not_eq_false, Decidable.not_not] at h4
    refine zz_v ok rfl (by rw [hz]; simp only [ni_lit, nI_add, ni_mul]; exact ⟨ni_in (by omega) (by omega), ni_in (by omega) (by omega), ni_in (by omega) (by omega), ni_in (by omega) (by omega), trivial⟩) rfl rfl ?_
    rw [if_neg h4] at h
    refine zz_pq h rfl ?_
    simp only [zz_gs, hz, ni_lit, nI_add, ni_mul]
    rw [zz_ixn (by omega), zz_ixn (by omega), zz_ixn (by omega), zz_ixn (by omega)]
    simp [Nat.mul_comm, nI_add]
  · skip
    simp only [zz_bi0, decide_eq_true_eq, decide_eq_false_iff_not, Bool.not_eq_false, Decidable.not_not] at h4
    refine zz_v ok rfl trivial rfl rfl ?_
    rw [if_pos h4] at h
    exact h
theorem sp_Ro_dropFirst {G : zG} {post : Option zV → zM → Prop} {M : zM} {w j n k : Nat} (hG : zz_go G) (hz : M.1 (1, w, j) 1 = nI n) (hn : n * 4 ≤ zz_rl j) {kk : Int32} (ek : kk = nI k) (hk : k < 100000) (h : post none (ro_drop M w j n k)) : zz_T G md_Ro_dropFirst [.inr (.inr (1, w, j)), .inl kk] M post := by
  refine en_Ro_dropFirst hG rfl (fun Z ok => ?_)
  have hj := zz_rl_le j
  subst ek
  unfold ro_drop at h
  refine zz_b ok rfl trivial rfl (fun h1 => ?_) (fun h1 => ?_)
  · skip
    have hk0 : 0 < k := by
      rw [ni_lit, ni_ltn (by decide) (by omega)] at h1; exact h1
    refine zz_b ok rfl trivial rfl (fun h9 => ?_) (fun h9 => ?_)
    · skip
      rw [hz, ni_ltn (by omega) (by omega)] at h9
      refine zz_v ok rfl trivial rfl rfl ?_
      rw [if_pos (by omega)] at h
      exact h
    · skip
      rw [hz, ni_ltn (by omega) (by omega)] at h9
      refine zz_v ok rfl (by rw [hz, ni_subn (by omega)]; simp only [ni_lit, ni_mul]; rw [zz_ixn (by omega), zz_ixn (by omega), zz_ixn (by omega)]; exact ⟨⟨nI_pos (by omega), nI_pos (by omega), nI_pos (by omega), by omega, by omega⟩, trivial⟩) rfl rfl ?_
      rw [if_neg (by omega)] at h
      refine zz_pq h rfl ?_
      rw [hz, ni_subn (by omega)]
      simp only [ni_lit, ni_mul]
      rw [zz_ixn (by omega), zz_ixn (by omega), zz_ixn (by omega)]
      simp [Nat.mul_comm]
  · skip
    have hk0 : ¬ 0 < k := by
      rw [ni_lit, ni_ltn (by decide) (by omega)] at h1; exact h1
    refine zz_v ok rfl trivial rfl rfl ?_
    rw [if_pos (by omega)] at h
    exact h
theorem sp_Ro_copyRows {G : zG} {post : Option zV → zM → Prop} {M : zM} {w j w2 j2 n : Nat} (hG : zz_go G) (hz : M.1 (1, w2, j2) 1 = nI n) (hn : n * 4 ≤ zz_rl j) (hn2 : n * 4 ≤ zz_rl j2) (h : post none (ro_copy M w j w2 j2 n)) : zz_T G md_Ro_copyRows [.inr (.inr (1, w, j)), .inr (.inr (1, w2, j2))] M post := by
  refine en_Ro_copyRows hG rfl (fun Z ok => ?_)
  have hj := zz_rl_le j
  unfold ro_copy at h
  refine zz_b ok rfl trivial rfl (fun h13 => ?_) (fun h13 => ?_)
  · skip
    exact absurd h13 (by rw [hz]; simp only [ni_lit, ni_mul]; rw [ni_ltn (by omega) (by omega)]; omega)
  · skip
    refine zz_v ok rfl (by rw [hz]; simp only [ni_lit, ni_mul]; rw [zz_ixn (by omega), zz_ixn (by omega)]; exact ⟨⟨nI_pos (by omega), nI_pos (by omega), nI_pos (by omega), by omega, by omega⟩, trivial⟩) rfl rfl ?_
    refine zz_pq h rfl ?_
    simp only [zz_gc, hz, ni_lit, ni_mul]
    rw [zz_ixn (by omega), zz_ixn (by omega)]
    simp [Nat.mul_comm, hz]
theorem sp_Ro_sharedStart {G : zG} {post : Option zV → zM → Prop} {M : zM} {w j w2 j2 n n2 q : Nat} (hG : zz_go G) (hz : M.1 (1, w, j) 1 = nI n) (hn : n * 4 ≤ zz_rl j) (hz2 : M.1 (1, w2, j2) 1 = nI n2) (hn2 : n2 * 4 ≤ zz_rl j2) (hq : q = min n n2) (h : post (some (.inl (nI (ro_shared M w j w2 j2 q)))) M) : zz_T G md_Ro_sharedStart [.inr (.inr (1, w, j)), .inr (.inr (1, w2, j2))] M post := by
  refine en_Ro_sharedStart hG rfl (fun Z ok => ?_)
  have hj := zz_rl_le j
  have hj2 := zz_rl_le j2
  unfold ro_shared at h
  generalize hp : (fun i => !(M.1 (7, w, j) i == M.1 (7, w2, j2) i)) = p at h
  have hqn : q * 4 ≤ zz_rl j ∧ q * 4 ≤ zz_rl j2 := by omega
  have lp16 : ∀ (f k : Nat), 4 * q - k < f → k ≤ 4 * q → ∀ (x3 x2 : Int32), x3 = nI k → x2 = nI (4 * q) → zz_ff p (4 * q) 0 = zz_ff p (4 * q - k) k → zz_W G Z md_Ro_sharedStart post 16 [(3, .inl x3), (2, .inl x2), (1, .inr (.inr (1, w2, j2))), (0, .inr (.inr (1, w, j)))] [] M := by
    intro f
    induction f with
    | zero => intro k hf; exact absurd hf (Nat.not_lt_zero _)
    | succ f ih => ?_
    intro k hf hk x3 x2 e3 e2 hff
    subst e3; subst e2
    refine zz_b ok rfl trivial rfl (fun h18 => ?_) (fun h18 => ?_)
    · skip
      rw [ni_ltn (by omega) (by omega)] at h18
      refine zz_b ok rfl ⟨ni_in (by omega) (by omega), ni_in (by omega) (by omega), trivial⟩ rfl (fun h33 => ?_) (fun h33 => ?_)
      · skip
        rw [zz_ixn (by omega)] at h33
        refine zz_g ok rfl trivial ?_
        refine zz_pm [3, 2, 1, 0] rfl ?_
        exact ih (k + 1) (by omega) (by omega) _ _ (nI_1 k) rfl (by rw [hff, show 4 * q - k = (4 * q - (k + 1)) + 1 by omega, zz_ff, if_neg (by rw [← hp]; simp [h33])])
      · skip
        refine zz_i ok rfl ⟨by decide, trivial⟩ rfl rfl ?_
        rw [hff, show 4 * q - k = (4 * q - (k + 1)) + 1 by omega, zz_ff, if_pos (by rw [← hp]; simp; intro e; exact h33 (by rw [zz_ixn (by omega)]; exact e))] at h
        exact zz_pq h (by rw [ni_lit, pk_div (by omega) (by decide) (by decide)]) rfl
    · skip
      rw [ni_ltn (by omega) (by omega)] at h18
      have hk4 : k = 4 * q := by omega
      subst hk4
      refine zz_i ok rfl ⟨by decide, trivial⟩ rfl rfl ?_
      rw [hff, Nat.sub_self, zz_ff] at h
      exact zz_pq h (by rw [ni_lit, pk_div (by omega) (by decide) (by decide)]) rfl
  refine zz_g ok rfl trivial ?_
  refine zz_pm [3, 2, 1, 0] rfl ?_
  exact lp16 (4 * q + 1) 0 (by omega) (by omega) _ _ rfl (by rw [hz, hz2, ni_min (by omega) (by omega), ni_lit, ni_mul]; congr 1; omega) rfl
