def mxl (h : Int64) (x : Int32) : Int64 := 31 * h + x.toInt64
def lf (f : Nat → Int32) : Nat → Int64 → Int64
  | 0, h => h
  | k + 1, h => mxl (lf f k h) (f k)
theorem lf0 (f : Nat → Int32) (h : Int64) : lf f 0 h = h := rfl
theorem lf1 (f : Nat → Int32) (k : Nat) (h : Int64) : lf f (k + 1) h = mxl (lf f k h) (f k) := rfl
def c_lcb (M : zM) (run : Int32) : Nat → Int32
  | 0 => run
  | k + 1 => if (nI k &&& (run ^^^ -1)) = 0 ∧ bcx (nI k) < bcx (c_lcb M run k) ∧ c_sw M (nI k) 5 0 = true then nI k else c_lcb M run k
def c_sk (M : zM) (s : Nat) : Nat → Int32
  | 0 => 0
  | k + 1 => if lo_lv M 0 s (nI k) 2147483647 (cmn M 0 s) = lo_lv M 0 5 (nI k) 2147483647 (cmn M 0 5) then c_sk M s k else c_sk M s k + 1
def L_staleKeys (M : zM) (a : Int32) : Int32 := if nsv a then -1001 else c_sk M (zz_ix a) 8
def c_is1 (M : zM) (k : Nat) : Bool := lo_or M 0 k (rn M 0 k - 1) 1 && !decide (nI (ro_shared M 0 k 0 5 (min (rn M 0 k) (rn M 0 5))) < M.1 (0, 0, k) 1)
def c_is (M : zM) : Nat → Bool
  | 0 => !decide (1 < bcx (c_hs M 5))
  | k + 1 => c_is M k && c_is1 M k
def dg_s (M : zM) (s : Nat) (h : Int64) : Int64 := lf (fun i => L_log M (nI s) (nI i)) 5 (lf (fun i => L_known M (nI s) (nI i)) 5 (mxl (mxl (mxl h (L_clock M (nI s) 0)) (M.1 (3, 0, s) 3)) (L_holds M (nI s))))
def dg_S (M : zM) : Nat → Int64 → Int64
  | 0, h => h
  | k + 1, h => lf (M.1 (7, 0, k)) (4 * rn M 0 k) (dg_s M k (dg_S M k h))
def dg_C (M : zM) : Nat → Int64 → Int64
  | 0, h => h
  | k + 1, h => mxl (mxl (dg_C M k h) (M.1 (12, 0, 0) k)) (M.1 (13, 0, 0) k)
def L_digest (M : zM) : Int64 := lf (M.1 (11, 0, 0)) 5 (dg_C M 4 (lf (M.1 (7, 0, 11)) (4 * rn M 0 11) (dg_S M 5 (lf (fun i => L_count M (nI i)) 11 2525))))
def L_save (M : zM) (k : Int32) : Int32 × zM := if k < 0 ∨ 1 < k then (-1001, M) else ((zz_set (c_cw M (zz_ix k + 1) 0) (15, 0, 0) (zz_ix k) 1).1 (4, 0, 0) 9, zz_set (c_cw M (zz_ix k + 1) 0) (15, 0, 0) (zz_ix k) 1)
def L_restore (M : zM) (k : Int32) : Int32 × zM := if k < 0 ∨ 1 < k then (-1001, M) else if M.1 (15, 0, 0) (zz_ix k) = 0 then (-1002, M) else ((c_cw M 0 (zz_ix k + 1)).1 (4, 0, 0) 9, c_cw M 0 (zz_ix k + 1))
def r_1 (i : Nat) (M : zM) : zM := zz_set (L_mk M (M.1 (17, 0, 0) i) (M.1 (18, 0, 0) (3 * i)) (M.1 (18, 0, 0) (3 * i + 1)) (M.1 (18, 0, 0) (3 * i + 2))).2 (19, 0, 0) i (L_mk M (M.1 (17, 0, 0) i) (M.1 (18, 0, 0) (3 * i)) (M.1 (18, 0, 0) (3 * i + 1)) (M.1 (18, 0, 0) (3 * i + 2))).1
def L_runQ (M : zM) (n : Nat) : zM := zz_it r_1 (min (zz_ix ((sc_pX M n).2.1 (2, 0, 0) 5)) 34) (sc_pX M n).2
def L_run (M : zM) (n : Nat) : Int32 × zM := if ¬ sc_pr M n = -1 then (-2000 - sc_pr M n, (sc_pX M n).2) else ((L_runQ M n).1 (2, 0, 0) 5, zz_set (L_runQ M n) (2, 0, 0) 6 ((L_runQ M n).1 (2, 0, 0) 5))
def rsb (b0 b1 b2 b3 b4 : Bool) : Int32 := (((((0 : Int32) ||| (if b0 = true then 1 <<< (nI 0 &&& 31) else 0)) ||| (if b1 = true then 1 <<< (nI 1 &&& 31) else 0)) ||| (if b2 = true then 1 <<< (nI 2 &&& 31) else 0)) ||| (if b3 = true then 1 <<< (nI 3 &&& 31) else 0)) ||| (if b4 = true then 1 <<< (nI 4 &&& 31) else 0)
theorem rsb_in : ∀ b0 b1 b2 b3 b4 : Bool, ∃ r : Fin 32, rsb b0 b1 b2 b3 b4 = nI r.val := by decide +kernel
theorem c_rs_eq (M : zM) : c_rs M 5 = rsb (decide (M.1 (3, 0, 0) 3 = 0)) (decide (M.1 (3, 0, 1) 3 = 0)) (decide (M.1 (3, 0, 2) 3 = 0)) (decide (M.1 (3, 0, 3) 3 = 0)) (decide (M.1 (3, 0, 4) 3 = 0)) := by
  simp only [c_rs, rsb, decide_eq_true_eq]
theorem c_rs_in (M : zM) : ∃ R : Nat, R ≤ 31 ∧ c_rs M 5 = nI R := by
  rw [c_rs_eq]
  obtain ⟨r, hr⟩ := rsb_in (decide (M.1 (3, 0, 0) 3 = 0)) (decide (M.1 (3, 0, 1) 3 = 0)) (decide (M.1 (3, 0, 2) 3 = 0)) (decide (M.1 (3, 0, 3) 3 = 0)) (decide (M.1 (3, 0, 4) 3 = 0))
  exact ⟨r.val, by omega, hr⟩
theorem sp_Le_mix {G : zG} {post : Option zV → zM → Prop} {M : zM} {h0 : Int64} {x : Int32} (hG : zz_go G) (h : post (some (.inr (.inl (mxl h0 x)))) M) : zz_T G md_Le_mix [.inr (.inl h0), .inl x] M post := by
  refine en_Le_mix hG rfl (fun Z ok => ?_)
  refine zz_l ok rfl trivial rfl rfl ?_
  exact h
theorem sp_Le_pass {G : zG} {post : Option zV → zM → Prop} {M : zM} {t : Int32} (hw : wr M 0) (hG : zz_go G) (h : post (some (.inl (L_pass M t).1)) (L_pass M t).2) : zz_T G md_Le_pass [.inr (.inr (5, 0, 0)), .inl t] M post := by
  refine en_Le_pass hG rfl (fun Z ok => ?_)
  refine zz_cS ok rfl trivial rfl lk_Le_50 ca_Le_isWithin rfl rfl rfl (sp_Le_isWithin hG ?_)
  refine zz_b ok rfl trivial rfl (fun h8 => ?_) (fun h8 => ?_)
  · skip
    have h8 := wi_of h8
    refine zz_i ok rfl trivial rfl rfl ?_
    exact zz_pq h (by simp [L_pass, nsv, h8]) (by simp [L_pass, nsv, h8])
  · skip
    have h8 := wi_nof h8
    obtain ⟨T, hT, rfl⟩ : ∃ T : Nat, T ≤ 200 ∧ t = nI T := by
      have h1 := h8.1; have h2 := h8.2
      rw [ni_lt] at h1 h2
      have e1 : (1 : Int32).toInt = 1 := rfl
      have e2 : (200 : Int32).toInt = 200 := rfl
      obtain ⟨n, hn, e⟩ := ni_of (x := t) (N := 201) (by omega) (by omega)
      exact ⟨n, by omega, e⟩
    have eT : zz_ix (nI T) = T := zz_ixn (by omega)
    refine zz_b ok rfl trivial rfl (fun h26 => ?_) (fun h26 => ?_)
    · skip
      refine zz_i ok rfl trivial rfl rfl ?_
      exact zz_pq h (by simp [L_pass, nsv, h8, h26]) (by simp [L_pass, nsv, h8, h26])
    · skip
      have lp35 : ∀ (f k : Nat), T - k < f → k ≤ T → ∀ (x2 : Int32) (M' : zM), x2 = nI k → M' = c_tks M k → wr M' 0 → zz_W G Z md_Le_pass post 35 [(2, .inl x2), (1, .inl (nI T)), (0, .inr (.inr (5, 0, 0)))] [] M' := by
        intro f
        induction f with
        | zero => intro k hf; exact absurd hf (Nat.not_lt_zero _)
        | succ f ih => ?_
        intro k hf hk x2 M' e2 eM hw'
        subst e2
        refine zz_b ok rfl trivial rfl (fun h37 => ?_) (fun h37 => ?_)
        · skip
          rw [ni_ltn (by omega) (by omega)] at h37
          refine zz_cV ok rfl trivial rfl lk_Le_77 ca_Wo_tick rfl rfl rfl rfl rfl (sp_Wo_tick hG hw' ?_)
          refine zz_g ok rfl trivial ?_
          refine zz_pm [2, 1, 0] rfl ?_
          exact ih (k + 1) (by omega) (by omega) _ _ (nI_1 k) (by rw [eM]; rfl) (c_tk_wr hw')
        · skip
          rw [ni_ltn (by omega) (by omega)] at h37
          have hkT : k = T := by omega
          subst hkT
          refine zz_i ok rfl trivial rfl rfl ?_
          subst eM
          exact zz_pq h (by simp [L_pass, h8, h26, eT]) (by simp [L_pass, h8, h26, eT])
      refine zz_g ok rfl trivial ?_
      refine zz_pm [2, 1, 0] rfl ?_
      exact lp35 (T + 1) 0 (by omega) (by omega) _ _ rfl rfl hw
theorem sp_Le_leastCrashes {G : zG} {post : Option zV → zM → Prop} {M : zM} (hG : zz_go G) (hw : wr M 0) (h : post (some (.inl (c_lcb M (c_rs M 5) (zz_ix (c_rs M 5) + 1)))) M) : zz_T G md_Le_leastCrashes [.inr (.inr (5, 0, 0))] M post := by
  refine en_Le_leastCrashes hG rfl (fun Z ok => ?_)
  obtain ⟨R, hR, eR⟩ := c_rs_in M
  have eR2 : zz_ix (c_rs M 5) = R := ni_ix eR (by omega)
  rw [eR2] at h
  refine zz_cV ok rfl trivial rfl lk_Le_211 ca_Wo_runningServers rfl rfl rfl rfl rfl (sp_Wo_runningServers hG ?_)
  have lp12 : ∀ (f k : Nat), R + 1 - k < f → k ≤ R + 1 → ∀ (x3 x2 : Int32), x3 = nI k → x2 = c_lcb M (c_rs M 5) k → zz_W G Z md_Le_leastCrashes post 12 [(3, .inl x3), (2, .inl x2), (1, .inl (c_rs M 5)), (0, .inr (.inr (5, 0, 0)))] [] M := by
    intro f
    induction f with
    | zero => intro k hf; exact absurd hf (Nat.not_lt_zero _)
    | succ f ih => ?_
    intro k hf hk x3 x2 e3 e2
    subst e3; subst e2
    refine zz_b ok rfl trivial rfl (fun h14 => ?_) (fun h14 => ?_)
    · skip
      rw [eR, ni_ltn (by omega) (by omega)] at h14
      have hkR : k = R + 1 := by omega
      subst hkR
      refine zz_i ok rfl trivial rfl rfl ?_
      exact h
    · skip
      rw [eR, ni_ltn (by omega) (by omega)] at h14
      refine zz_b ok rfl trivial rfl (fun h22 => ?_) (fun h22 => ?_)
      · skip
        refine zz_b ok rfl trivial rfl (fun h34 => ?_) (fun h34 => ?_)
        · skip
          exact absurd h34 (by decide)
        · skip
          skip
          refine zz_cS ok rfl trivial rfl lk_Le_215 ca_In_bitCount rfl rfl rfl (sp_In_bitCount hG ?_)
          refine zz_cS ok rfl trivial rfl lk_Le_215 ca_In_bitCount rfl rfl rfl (sp_In_bitCount hG ?_)
          refine zz_b ok rfl trivial rfl (fun h45 => ?_) (fun h45 => ?_)
          · skip
            refine zz_cV ok rfl trivial rfl lk_Le_220 ca_Wo_isStoppedWithout rfl rfl rfl rfl rfl (sp_Wo_isStoppedWithout hG hw ?_)
            refine zz_b ok rfl trivial rfl (fun h56 => ?_) (fun h56 => ?_)
            · skip
              simp only [zz_bi0, Bool.not_eq_false] at h56
              refine zz_g ok rfl trivial ?_
              refine zz_pm [3, 2, 1, 0] rfl ?_
              exact ih (k + 1) (by omega) (by omega) _ _ (nI_1 k) (by rw [c_lcb, if_neg (by simp [h56])])
            · skip
              simp only [zz_bi0, Bool.not_eq_false] at h56
              refine zz_g ok rfl trivial ?_
              refine zz_pm [3, 2, 1, 0] rfl ?_
              exact ih (k + 1) (by omega) (by omega) _ _ (nI_1 k) (by rw [c_lcb, if_pos ⟨h22, h45, h56⟩])
          · skip
            refine zz_g ok rfl trivial ?_
            refine zz_pm [3, 2, 1, 0] rfl ?_
            exact ih (k + 1) (by omega) (by omega) _ _ (nI_1 k) (by rw [c_lcb, if_neg (fun q => h45 q.2.1)])
      · skip
        refine zz_b ok rfl trivial rfl (fun h34 => ?_) (fun h34 => ?_)
        · skip
          skip
          refine zz_g ok rfl trivial ?_
          refine zz_pm [3, 2, 1, 0] rfl ?_
          exact ih (k + 1) (by omega) (by omega) _ _ (nI_1 k) (by rw [c_lcb, if_neg (fun q => h22 q.1)])
        · skip
          exact absurd rfl h34
  refine zz_g ok rfl trivial ?_
  refine zz_pm [3, 2, 1, 0] rfl ?_
  exact lp12 (R + 2) 0 (by omega) (by omega) _ _ rfl rfl
theorem sp_Le_staleKeys {G : zG} {post : Option zV → zM → Prop} {M : zM} {a : Int32} (hw : wr M 0) (hc : wc M 0) (hG : zz_go G) (h : post (some (.inl (L_staleKeys M a))) M) : zz_T G md_Le_staleKeys [.inr (.inr (5, 0, 0)), .inl a] M post := by
  refine en_Le_staleKeys hG rfl (fun Z ok => ?_)
  refine zz_cS ok rfl trivial rfl lk_Le_42 ca_Le_isServer rfl rfl rfl (sp_Le_isServer hG ?_)
  try simp only [es]
  refine zz_b ok rfl trivial rfl (fun h4 => ?_) (fun h4 => ?_)
  · skip
    try simp only [es] at h4 ⊢
    have h4 := wi_of h4
    refine zz_i ok rfl trivial rfl rfl ?_
    exact zz_pq h (by simp [L_staleKeys, nsv, h4]) rfl
  · skip
    try simp only [es] at h4 ⊢
    have h4 := wi_nof h4
    obtain ⟨s, hs, rfl⟩ := ni_w (N := 4) (by decide) h4.1 h4.2
    have es := ni_e5 hs
    have lp15 : ∀ (f k : Nat), 8 - k < f → k ≤ 8 → ∀ (x3 x2 : Int32), x3 = nI k → x2 = c_sk M s k → zz_W G Z md_Le_staleKeys post 15 [(3, .inl x3), (2, .inl x2), (1, .inl (nI s)), (0, .inr (.inr (5, 0, 0)))] [] M := by
      intro f
      induction f with
      | zero => intro k hf; exact absurd hf (Nat.not_lt_zero _)
      | succ f ih => ?_
      intro k hf hk x3 x2 e3 e2
      subst e3; subst e2
      refine zz_b ok rfl trivial rfl (fun h18 => ?_) (fun h18 => ?_)
      · skip
        try simp only [es] at h18 ⊢
        rw [ni_lit, ni_ltn (by omega) (by decide)] at h18
        refine zz_cV ok rfl (by and_intros <;> first | trivial | exact ni_5 hs | exact ni_5 hv) rfl lk_Le_154 ca_Lo_lastValue rfl rfl rfl rfl rfl (sp_Lo_lastValue (n := rn M 0 s) (c := cmn M 0 s) hG (by rw [es]; exact (hw s (by omega)).1) (by rw [es]; exact (hw s (by omega)).2) (by rw [es]; exact (hc s (by omega)).1) (hc s (by omega)).2 ?_)
        try simp only [es]
        refine zz_cV ok rfl trivial rfl lk_Le_154 ca_Lo_lastValue rfl rfl rfl rfl rfl (sp_Lo_lastValue hG (hw 5 (by decide)).1 (hw 5 (by decide)).2 (hc 5 (by decide)).1 (hc 5 (by decide)).2 ?_)
        try simp only [es]
        refine zz_b ok rfl trivial rfl (fun h56 => ?_) (fun h56 => ?_)
        · skip
          try simp only [es] at h56 ⊢
          refine zz_g ok rfl trivial ?_
          refine zz_pm [3, 2, 1, 0] rfl ?_
          exact ih (k + 1) (by omega) (by omega) _ _ (nI_1 k) (by rw [c_sk, if_pos h56])
        · skip
          try simp only [es] at h56 ⊢
          refine zz_g ok rfl trivial ?_
          refine zz_pm [3, 2, 1, 0] rfl ?_
          exact ih (k + 1) (by omega) (by omega) _ _ (nI_1 k) (by rw [c_sk, if_neg h56])
      · skip
        try simp only [es] at h18 ⊢
        rw [ni_lit, ni_ltn (by omega) (by decide)] at h18
        have hk8 : k = 8 := by omega
        subst hk8
        refine zz_i ok rfl trivial rfl rfl ?_
        exact zz_pq h (by simp [L_staleKeys, nsv, es, h4]) rfl
    refine zz_g ok rfl trivial ?_
    refine zz_pm [3, 2, 1, 0] rfl ?_
    exact lp15 9 0 (by omega) (by omega) _ _ rfl rfl
theorem sp_Le_isSafe {G : zG} {post : Option zV → zM → Prop} {M : zM} (hG : zz_go G) (hw : wr M 0) (h : post (some (.inl (zz_bi (c_is M 5)))) M) : zz_T G md_Le_isSafe [.inr (.inr (5, 0, 0))] M post := by
  refine en_Le_isSafe hG rfl (fun Z ok => ?_)
  refine zz_cV ok rfl trivial rfl lk_Le_223 ca_Wo_holders rfl rfl rfl rfl rfl (sp_Wo_holders hG ?_)
  try simp only [ek]
  refine zz_cS ok rfl trivial rfl lk_Le_215 ca_In_bitCount rfl rfl rfl (sp_In_bitCount hG ?_)
  try simp only [ek]
  refine zz_b ok rfl trivial rfl (fun h11 => ?_) (fun h11 => ?_)
  · skip
    try simp only [ek] at h11 ⊢
    have lp22 : ∀ (f k : Nat), 5 - k < f → k ≤ 5 → ∀ (x2 x1 : Int32), x2 = nI k → x1 = zz_bi (c_is M k) → zz_W G Z md_Le_isSafe post 22 [(2, .inl x2), (1, .inl x1), (0, .inr (.inr (5, 0, 0)))] [] M := by
      intro f
      induction f with
      | zero => intro k hf; exact absurd hf (Nat.not_lt_zero _)
      | succ f ih => ?_
      intro k hf hk x2 x1 e2 e1
      subst e2; subst e1
      refine zz_b ok rfl trivial rfl (fun h24 => ?_) (fun h24 => ?_)
      · skip
        try simp only [ek] at h24 ⊢
        rw [ni_lit, ni_ltn (by omega) (by decide)] at h24
        have hk5 : k < 5 := h24
        have ek := ni_e5 hk5
        refine zz_b ok rfl ⟨ni_5 hk5, trivial⟩ rfl (fun h41 => ?_) (fun h41 => ?_)
        · skip
          try simp only [ek] at h41 ⊢
          simp only [zz_bi0, Bool.not_eq_false] at h41
          try simp only [ek]
          refine zz_g ok rfl trivial ?_
          refine zz_pm [2, 1, 0] rfl ?_
          exact ih (k + 1) (by omega) (by omega) _ _ (nI_1 k) (by simp [c_is, c_is1, zz_bi, h11, h24, h41])
        · skip
          try simp only [ek] at h41 ⊢
          simp only [zz_bi0, Bool.not_eq_false] at h41
          try simp only [ek]
          refine zz_cV ok rfl trivial rfl lk_Le_226 ca_Lo_isOrdered rfl rfl rfl rfl rfl (sp_Lo_isOrdered (n := rn M 0 k) hG (hw k (by omega)).1 (hw k (by omega)).2 ?_)
          try simp only [ek]
          refine zz_b ok rfl trivial rfl (fun h48 => ?_) (fun h48 => ?_)
          · skip
            try simp only [ek] at h48 ⊢
            simp only [zz_bi0, Bool.not_eq_false] at h48
            refine zz_g ok rfl trivial ?_
            refine zz_pm [2, 1, 0] rfl ?_
            exact ih (k + 1) (by omega) (by omega) _ _ (nI_1 k) (by simp [c_is, c_is1, zz_bi, h11, h24, h41, h48])
          · skip
            try simp only [ek] at h48 ⊢
            simp only [zz_bi0, Bool.not_eq_false] at h48
            refine zz_cV ok rfl trivial rfl lk_Le_175 ca_Ro_sharedStart rfl rfl rfl rfl rfl (sp_Ro_sharedStart hG (hw k (by omega)).1 (hw k (by omega)).2 (hw 5 (by decide)).1 (hw 5 (by decide)).2 rfl ?_)
            try simp only [ek]
            refine zz_b ok rfl trivial rfl (fun h72 => ?_) (fun h72 => ?_)
            · skip
              try simp only [ek] at h72 ⊢
              refine zz_g ok rfl trivial ?_
              refine zz_pm [2, 1, 0] rfl ?_
              exact ih (k + 1) (by omega) (by omega) _ _ (nI_1 k) (by simp [c_is, c_is1, zz_bi, h11, h24, h41, h48, h72])
            · skip
              try simp only [ek] at h72 ⊢
              refine zz_g ok rfl trivial ?_
              refine zz_pm [2, 1, 0] rfl ?_
              exact ih (k + 1) (by omega) (by omega) _ _ (nI_1 k) (by simp [c_is, c_is1, zz_bi, h11, h24, h41, h48, h72])
      · skip
        try simp only [ek] at h24 ⊢
        rw [ni_lit, ni_ltn (by omega) (by decide)] at h24
        have hk6 : k = 5 := by omega
        subst hk6
        refine zz_b ok rfl trivial rfl (fun h88 => ?_) (fun h88 => ?_)
        · skip
          try simp only [ek] at h88 ⊢
          simp only [zz_bi0, Bool.not_eq_false] at h88
          refine zz_i ok rfl trivial rfl rfl ?_
          exact zz_pq h (by simp [h88, zz_bi]) rfl
        · skip
          try simp only [ek] at h88 ⊢
          simp only [zz_bi0, Bool.not_eq_false] at h88
          refine zz_i ok rfl trivial rfl rfl ?_
          exact zz_pq h (by simp [h88, zz_bi]) rfl
    refine zz_g ok rfl trivial ?_
    refine zz_pm [2, 1, 0] rfl ?_
    exact lp22 6 0 (by omega) (by omega) _ _ rfl (by simp [c_is, zz_bi, h11])
  · skip
    try simp only [ek] at h11 ⊢
    have lp22 : ∀ (f k : Nat), 5 - k < f → k ≤ 5 → ∀ (x2 x1 : Int32), x2 = nI k → x1 = zz_bi (c_is M k) → zz_W G Z md_Le_isSafe post 22 [(2, .inl x2), (1, .inl x1), (0, .inr (.inr (5, 0, 0)))] [] M := by
      intro f
      induction f with
      | zero => intro k hf; exact absurd hf (Nat.not_lt_zero _)
      | succ f ih => ?_
      intro k hf hk x2 x1 e2 e1
      subst e2; subst e1
      refine zz_b ok rfl trivial rfl (fun h24 => ?_) (fun h24 => ?_)
      · skip
        try simp only [ek] at h24 ⊢
        rw [ni_lit, ni_ltn (by omega) (by decide)] at h24
        have hk5 : k < 5 := h24
        have ek := ni_e5 hk5
        refine zz_b ok rfl ⟨ni_5 hk5, trivial⟩ rfl (fun h41 => ?_) (fun h41 => ?_)
        · skip
          try simp only [ek] at h41 ⊢
          simp only [zz_bi0, Bool.not_eq_false] at h41
          try simp only [ek]
          refine zz_g ok rfl trivial ?_
          refine zz_pm [2, 1, 0] rfl ?_
          exact ih (k + 1) (by omega) (by omega) _ _ (nI_1 k) (by simp [c_is, c_is1, zz_bi, h11, h24, h41])
        · skip
          try simp only [ek] at h41 ⊢
          simp only [zz_bi0, Bool.not_eq_false] at h41
          try simp only [ek]
          refine zz_cV ok rfl trivial rfl lk_Le_226 ca_Lo_isOrdered rfl rfl rfl rfl rfl (sp_Lo_isOrdered (n := rn M 0 k) hG (hw k (by omega)).1 (hw k (by omega)).2 ?_)
          try simp only [ek]
          refine zz_b ok rfl trivial rfl (fun h48 => ?_) (fun h48 => ?_)
          · skip
            try simp only [ek] at h48 ⊢
            simp only [zz_bi0, Bool.not_eq_false] at h48
            refine zz_g ok rfl trivial ?_
            refine zz_pm [2, 1, 0] rfl ?_
            exact ih (k + 1) (by omega) (by omega) _ _ (nI_1 k) (by simp [c_is, c_is1, zz_bi, h11, h24, h41, h48])
          · skip
            try simp only [ek] at h48 ⊢
            simp only [zz_bi0, Bool.not_eq_false] at h48
            refine zz_cV ok rfl trivial rfl lk_Le_175 ca_Ro_sharedStart rfl rfl rfl rfl rfl (sp_Ro_sharedStart hG (hw k (by omega)).1 (hw k (by omega)).2 (hw 5 (by decide)).1 (hw 5 (by decide)).2 rfl ?_)
            try simp only [ek]
            refine zz_b ok rfl trivial rfl (fun h72 => ?_) (fun h72 => ?_)
            · skip
              try simp only [ek] at h72 ⊢
              refine zz_g ok rfl trivial ?_
              refine zz_pm [2, 1, 0] rfl ?_
              exact ih (k + 1) (by omega) (by omega) _ _ (nI_1 k) (by simp [c_is, c_is1, zz_bi, h11, h24, h41, h48, h72])
            · skip
              try simp only [ek] at h72 ⊢
              refine zz_g ok rfl trivial ?_
              refine zz_pm [2, 1, 0] rfl ?_
              exact ih (k + 1) (by omega) (by omega) _ _ (nI_1 k) (by simp [c_is, c_is1, zz_bi, h11, h24, h41, h48, h72])
      · skip
        try simp only [ek] at h24 ⊢
        rw [ni_lit, ni_ltn (by omega) (by decide)] at h24
        have hk6 : k = 5 := by omega
        subst hk6
        refine zz_b ok rfl trivial rfl (fun h88 => ?_) (fun h88 => ?_)
        · skip
          try simp only [ek] at h88 ⊢
          simp only [zz_bi0, Bool.not_eq_false] at h88
          refine zz_i ok rfl trivial rfl rfl ?_
          exact zz_pq h (by simp [h88, zz_bi]) rfl
        · skip
          try simp only [ek] at h88 ⊢
          simp only [zz_bi0, Bool.not_eq_false] at h88
          refine zz_i ok rfl trivial rfl rfl ?_
          exact zz_pq h (by simp [h88, zz_bi]) rfl
    refine zz_g ok rfl trivial ?_
    refine zz_pm [2, 1, 0] rfl ?_
    exact lp22 6 0 (by omega) (by omega) _ _ rfl (by simp [c_is, zz_bi, h11])
theorem sp_Le_mixRows {G : zG} {post : Option zV → zM → Prop} {M : zM} {w j n : Nat} {h0 : Int64} (hG : zz_go G) (hz : M.1 (1, w, j) 1 = nI n) (hn : n * 4 ≤ zz_rl j) (h : post (some (.inr (.inl (lf (M.1 (7, w, j)) (4 * n) h0)))) M) : zz_T G md_Le_mixRows [.inr (.inl h0), .inr (.inr (1, w, j))] M post := by
  refine en_Le_mixRows hG rfl (fun Z ok => ?_)
  have hj := zz_rl_le j
  have lp5 : ∀ (f k : Nat), n - k < f → k ≤ n → ∀ (x5 : Int32) (y3 : Int64), x5 = nI k → y3 = lf (M.1 (7, w, j)) (4 * k) h0 → zz_W G Z md_Le_mixRows post 5 [(5, .inl x5), (3, .inr (.inl y3)), (2, .inr (.inr (1, w, j)))] [] M := by
    intro f
    induction f with
    | zero => intro k hf; exact absurd hf (Nat.not_lt_zero _)
    | succ f ih => ?_
    intro k hf hk x5 y3 e5 e3
    subst e5; subst e3
    refine zz_b ok rfl trivial rfl (fun h11 => ?_) (fun h11 => ?_)
    · skip
      rw [hz, ni_ltn (by omega) (by omega)] at h11
      have lp17 : ∀ (g c : Nat), 4 - c < g → c ≤ 4 → ∀ (x6 : Int32) (y3 : Int64), x6 = nI c → y3 = lf (M.1 (7, w, j)) (4 * k + c) h0 → zz_W G Z md_Le_mixRows post 17 [(6, .inl x6), (5, .inl (nI k)), (3, .inr (.inl y3)), (2, .inr (.inr (1, w, j)))] [] M := by
        intro g
        induction g with
        | zero => intro c hg; exact absurd hg (Nat.not_lt_zero _)
        | succ g ih2 => ?_
        intro c hg hc x6 y3 e6 e3
        subst e6; subst e3
        refine zz_b ok rfl trivial rfl (fun h20 => ?_) (fun h20 => ?_)
        · skip
          rw [ni_lit, ni_ltn (by omega) (by decide)] at h20
          have hc4 : c < 4 := h20
          refine zz_cV ok rfl trivial rfl lk_Le_172 ca_Ro_get rfl rfl rfl rfl rfl (sp_Ro_get (c := c) hG hz hn rfl hc4 ?_)
          refine zz_cS ok rfl trivial rfl lk_Le_275 ca_Le_mix rfl rfl rfl (sp_Le_mix hG ?_)
          refine zz_g ok rfl trivial ?_
          refine zz_pm [6, 5, 3, 2] rfl ?_
          exact ih2 (c + 1) (by omega) (by omega) _ _ (nI_1 c) (by rw [show 4 * k + (c + 1) = (4 * k + c) + 1 by omega, lf, ro_get_in hz hn rfl h11])
        · skip
          rw [ni_lit, ni_ltn (by omega) (by decide)] at h20
          have hc4 : c = 4 := by omega
          subst hc4
          refine zz_g ok rfl trivial ?_
          refine zz_pm [5, 3, 2] rfl ?_
          exact ih (k + 1) (by omega) (by omega) _ _ (nI_1 k) (by rw [show 4 * (k + 1) = 4 * k + 4 by omega])
      refine zz_g ok rfl trivial ?_
      refine zz_pm [6, 5, 3, 2] rfl ?_
      exact lp17 5 0 (by omega) (by omega) _ _ rfl rfl
    · skip
      rw [hz, ni_ltn (by omega) (by omega)] at h11
      have hkn : k = n := by omega
      subst hkn
      refine zz_l ok rfl trivial rfl rfl ?_
      exact h
  refine zz_g ok rfl trivial ?_
  refine zz_pm [5, 3, 2] rfl ?_
  exact lp5 (n + 1) 0 (by omega) (by omega) _ _ rfl rfl
theorem sp_Le_mixServer {G : zG} {post : Option zV → zM → Prop} {M : zM} {s : Nat} {a : Int32} {h0 : Int64} (hG : zz_go G) (hw : wr M 0) (hc : wc M 0) (ea : a = nI s) (hs : s < 5) (h : post (some (.inr (.inl (dg_s M s h0)))) M) : zz_T G md_Le_mixServer [.inr (.inr (5, 0, 0)), .inr (.inl h0), .inl a] M post := by
  refine en_Le_mixServer hG rfl (fun Z ok => ?_)
  subst ea
  have es := ni_e5 hs
  refine zz_cV ok rfl trivial rfl lk_Le_316 ca_Le_clock rfl rfl rfl rfl rfl (sp_Le_clock hG ?_)
  try simp only [es]
  refine zz_cS ok rfl trivial rfl lk_Le_275 ca_Le_mix rfl rfl rfl (sp_Le_mix hG ?_)
  try simp only [es]
  refine zz_cS ok rfl (by and_intros <;> first | trivial | exact ni_5 hs | exact ni_5 hv) rfl lk_Le_275 ca_Le_mix rfl rfl rfl (sp_Le_mix hG ?_)
  try simp only [es]
  refine zz_cV ok rfl trivial rfl lk_Le_319 ca_Le_holds rfl rfl rfl rfl rfl (sp_Le_holds hG ?_)
  try simp only [es]
  refine zz_cS ok rfl trivial rfl lk_Le_275 ca_Le_mix rfl rfl rfl (sp_Le_mix hG ?_)
  try simp only [es]
  have lp46 : ∀ (f k : Nat), 5 - k < f → k ≤ 5 → ∀ (x6 : Int32) (y4 : Int64), x6 = nI k → y4 = lf (fun i => L_known M (nI s) (nI i)) k (mxl (mxl (mxl h0 (L_clock M (nI s) 0)) (M.1 (3, 0, s) 3)) (L_holds M (nI s))) → zz_W G Z md_Le_mixServer post 46 [(6, .inl x6), (4, .inr (.inl y4)), (3, .inl (nI s)), (1, .inr (.inl h0)), (0, .inr (.inr (5, 0, 0)))] [] M := by
    intro f
    induction f with
    | zero => intro k hf; exact absurd hf (Nat.not_lt_zero _)
    | succ f ih => ?_
    intro k hf hk x6 y4 e6 e4
    subst e6; subst e4
    refine zz_b ok rfl trivial rfl (fun h49 => ?_) (fun h49 => ?_)
    · skip
      try simp only [es] at h49 ⊢
      rw [ni_lit, ni_ltn (by decide) (by omega)] at h49
      have hk5 : k = 5 := by omega
      subst hk5
      have lp75 : ∀ (f k : Nat), 5 - k < f → k ≤ 5 → ∀ (x6 : Int32) (y4 : Int64), x6 = nI k → y4 = lf (fun i => L_log M (nI s) (nI i)) k (lf (fun i => L_known M (nI s) (nI i)) 5 (mxl (mxl (mxl h0 (L_clock M (nI s) 0)) (M.1 (3, 0, s) 3)) (L_holds M (nI s)))) → zz_W G Z md_Le_mixServer post 75 [(6, .inl x6), (4, .inr (.inl y4)), (3, .inl (nI s)), (1, .inr (.inl h0)), (0, .inr (.inr (5, 0, 0)))] [] M := by
        intro f
        induction f with
        | zero => intro k hf; exact absurd hf (Nat.not_lt_zero _)
        | succ f ih => ?_
        intro k hf hk x6 y4 e6 e4
        subst e6; subst e4
        refine zz_b ok rfl trivial rfl (fun h78 => ?_) (fun h78 => ?_)
        · skip
          try simp only [es] at h78 ⊢
          rw [ni_lit, ni_ltn (by decide) (by omega)] at h78
          have hk5 : k = 5 := by omega
          subst hk5
          refine zz_l ok rfl trivial rfl rfl ?_
          unfold dg_s at h
          exact h
        · skip
          try simp only [es] at h78 ⊢
          rw [ni_lit, ni_ltn (by decide) (by omega)] at h78
          refine zz_cV ok rfl trivial rfl lk_Le_325 ca_Le_log rfl rfl rfl rfl rfl (sp_Le_log hw hc hG ?_)
          try simp only [es]
          refine zz_cS ok rfl trivial rfl lk_Le_275 ca_Le_mix rfl rfl rfl (sp_Le_mix hG ?_)
          try simp only [es]
          refine zz_g ok rfl trivial ?_
          refine zz_pm [6, 4, 3, 1, 0] rfl ?_
          exact ih (k + 1) (by omega) (by omega) _ _ (nI_1 k) (lf1 _ _ _).symm
      refine zz_g ok rfl trivial ?_
      refine zz_pm [6, 4, 3, 1, 0] rfl ?_
      exact lp75 6 0 (by omega) (by omega) _ _ rfl (lf0 _ _).symm
    · skip
      try simp only [es] at h49 ⊢
      rw [ni_lit, ni_ltn (by decide) (by omega)] at h49
      refine zz_cV ok rfl trivial rfl lk_Le_322 ca_Le_known rfl rfl rfl rfl rfl (sp_Le_known hG ?_)
      try simp only [es]
      refine zz_cS ok rfl trivial rfl lk_Le_275 ca_Le_mix rfl rfl rfl (sp_Le_mix hG ?_)
      try simp only [es]
      refine zz_g ok rfl trivial ?_
      refine zz_pm [6, 4, 3, 1, 0] rfl ?_
      exact ih (k + 1) (by omega) (by omega) _ _ (nI_1 k) (lf1 _ _ _).symm
  refine zz_g ok rfl trivial ?_
  refine zz_pm [6, 4, 3, 1, 0] rfl ?_
  exact lp46 6 0 (by omega) (by omega) _ _ rfl (lf0 _ _).symm
theorem sp_Le_digest {G : zG} {post : Option zV → zM → Prop} {M : zM} (hG : zz_go G) (hw : wr M 0) (hc : wc M 0) (h : post (some (.inr (.inl (L_digest M)))) M) : zz_T G md_Le_digest [.inr (.inr (5, 0, 0))] M post := by
  refine en_Le_digest hG rfl (fun Z ok => ?_)
  have lp6 : ∀ (f k : Nat), 11 - k < f → k ≤ 11 → ∀ (x3 : Int32) (y1 : Int64), x3 = nI k → y1 = lf (fun i => L_count M (nI i)) k 2525 → zz_W G Z md_Le_digest post 6 [(3, .inl x3), (1, .inr (.inl y1)), (0, .inr (.inr (5, 0, 0)))] [] M := by
    intro f
    induction f with
    | zero => intro k hf; exact absurd hf (Nat.not_lt_zero _)
    | succ f ih => ?_
    intro k hf hk x3 y1 e3 e1
    subst e3; subst e1
    refine zz_b ok rfl trivial rfl (fun h9 => ?_) (fun h9 => ?_)
    · skip
      rw [ni_lit, ni_ltn (by omega) (by decide)] at h9
      try rw [zz_ixn (by omega)]
      have hkN : k < 11 := by omega
      refine zz_cV ok rfl trivial rfl lk_Le_272 ca_Le_count rfl rfl rfl rfl rfl (sp_Le_count hG ?_)
      refine zz_cS ok rfl trivial rfl lk_Le_275 ca_Le_mix rfl rfl rfl (sp_Le_mix hG ?_)
      refine zz_g ok rfl trivial ?_
      refine zz_pm [3, 1, 0] rfl ?_
      exact ih (k + 1) (by omega) (by omega) _ _ (nI_1 k) rfl
    · skip
      rw [ni_lit, ni_ltn (by omega) (by decide)] at h9
      have hkN : k = 11 := by omega
      subst hkN
      have lp30 : ∀ (f k : Nat), 5 - k < f → k ≤ 5 → ∀ (x3 : Int32) (y1 : Int64), x3 = nI k → y1 = dg_S M k (lf (fun i => L_count M (nI i)) 11 2525) → zz_W G Z md_Le_digest post 30 [(3, .inl x3), (1, .inr (.inl y1)), (0, .inr (.inr (5, 0, 0)))] [] M := by
        intro f
        induction f with
        | zero => intro k hf; exact absurd hf (Nat.not_lt_zero _)
        | succ f ih => ?_
        intro k hf hk x3 y1 e3 e1
        subst e3; subst e1
        refine zz_b ok rfl trivial rfl (fun h32 => ?_) (fun h32 => ?_)
        · skip
          rw [ni_lit, ni_ltn (by omega) (by decide)] at h32
          try rw [zz_ixn (by omega)]
          have hkN : k < 5 := by omega
          refine zz_cV ok rfl trivial rfl lk_Le_279 ca_Le_mixServer rfl rfl rfl rfl rfl (sp_Le_mixServer hG hw hc rfl hkN ?_)
          refine zz_cS ok rfl ⟨ni_5 hkN, trivial⟩ rfl lk_Le_282 ca_Le_mixRows rfl rfl rfl (sp_Le_mixRows (n := rn M 0 k) hG (by rw [zz_ixn (by omega)]; exact (hw k (by omega)).1) (by rw [zz_ixn (by omega)]; exact (hw k (by omega)).2) ?_)
          refine zz_g ok rfl trivial ?_
          refine zz_pm [3, 1, 0] rfl ?_
          exact ih (k + 1) (by omega) (by omega) _ _ (nI_1 k) (by rw [zz_ixn (by omega)]; rfl)
        · skip
          rw [ni_lit, ni_ltn (by omega) (by decide)] at h32
          have hkN : k = 5 := by omega
          subst hkN
          refine zz_cS ok rfl trivial rfl lk_Le_282 ca_Le_mixRows rfl rfl rfl (sp_Le_mixRows hG (hw 11 (by decide)).1 (hw 11 (by decide)).2 ?_)
          have lp82 : ∀ (f k : Nat), 4 - k < f → k ≤ 4 → ∀ (x3 : Int32) (y1 : Int64), x3 = nI k → y1 = dg_C M k (lf (M.1 (7, 0, 11)) (4 * rn M 0 11) (dg_S M 5 (lf (fun i => L_count M (nI i)) 11 2525))) → zz_W G Z md_Le_digest post 82 [(3, .inl x3), (1, .inr (.inl y1)), (0, .inr (.inr (5, 0, 0)))] [] M := by
            intro f
            induction f with
            | zero => intro k hf; exact absurd hf (Nat.not_lt_zero _)
            | succ f ih => ?_
            intro k hf hk x3 y1 e3 e1
            subst e3; subst e1
            refine zz_b ok rfl trivial rfl (fun h84 => ?_) (fun h84 => ?_)
            · skip
              rw [ni_lit, ni_ltn (by omega) (by decide)] at h84
              try rw [zz_ixn (by omega)]
              have hkN : k < 4 := by omega
              refine zz_cS ok rfl (by and_intros <;> first | trivial | exact ni_in hkN (by decide)) rfl lk_Le_275 ca_Le_mix rfl rfl rfl (sp_Le_mix hG ?_)
              refine zz_cS ok rfl (by and_intros <;> first | trivial | exact ni_in hkN (by decide)) rfl lk_Le_275 ca_Le_mix rfl rfl rfl (sp_Le_mix hG ?_)
              refine zz_g ok rfl trivial ?_
              refine zz_pm [3, 1, 0] rfl ?_
              exact ih (k + 1) (by omega) (by omega) _ _ (nI_1 k) (by rw [zz_ixn (by omega)]; rfl)
            · skip
              rw [ni_lit, ni_ltn (by omega) (by decide)] at h84
              have hkN : k = 4 := by omega
              subst hkN
              have lp121 : ∀ (f k : Nat), 5 - k < f → k ≤ 5 → ∀ (x3 : Int32) (y1 : Int64), x3 = nI k → y1 = lf (M.1 (11, 0, 0)) k (dg_C M 4 (lf (M.1 (7, 0, 11)) (4 * rn M 0 11) (dg_S M 5 (lf (fun i => L_count M (nI i)) 11 2525)))) → zz_W G Z md_Le_digest post 121 [(3, .inl x3), (1, .inr (.inl y1)), (0, .inr (.inr (5, 0, 0)))] [] M := by
                intro f
                induction f with
                | zero => intro k hf; exact absurd hf (Nat.not_lt_zero _)
                | succ f ih => ?_
                intro k hf hk x3 y1 e3 e1
                subst e3; subst e1
                refine zz_b ok rfl trivial rfl (fun h123 => ?_) (fun h123 => ?_)
                · skip
                  rw [ni_lit, ni_ltn (by omega) (by decide)] at h123
                  try rw [zz_ixn (by omega)]
                  have hkN : k < 5 := by omega
                  refine zz_cS ok rfl (by and_intros <;> first | trivial | exact ni_in hkN (by decide)) rfl lk_Le_275 ca_Le_mix rfl rfl rfl (sp_Le_mix hG ?_)
                  refine zz_g ok rfl trivial ?_
                  refine zz_pm [3, 1, 0] rfl ?_
                  exact ih (k + 1) (by omega) (by omega) _ _ (nI_1 k) (by rw [zz_ixn (by omega)]; rfl)
                · skip
                  rw [ni_lit, ni_ltn (by omega) (by decide)] at h123
                  have hkN : k = 5 := by omega
                  subst hkN
                  refine zz_l ok rfl trivial rfl rfl ?_
                  exact h
              refine zz_g ok rfl trivial ?_
              refine zz_pm [3, 1, 0] rfl ?_
              exact lp121 6 0 (by omega) (by omega) _ _ rfl rfl
          refine zz_g ok rfl trivial ?_
          refine zz_pm [3, 1, 0] rfl ?_
          exact lp82 5 0 (by omega) (by omega) _ _ rfl rfl
      refine zz_g ok rfl trivial ?_
      refine zz_pm [3, 1, 0] rfl ?_
      exact lp30 6 0 (by omega) (by omega) _ _ rfl rfl
  refine zz_g ok rfl trivial ?_
  refine zz_pm [3, 1, 0] rfl ?_
  exact lp6 12 0 (by omega) (by omega) _ _ rfl rfl
theorem sp_Le_save {G : zG} {post : Option zV → zM → Prop} {M : zM} {k : Int32} (hw : wr M 0) (hG : zz_go G) (h : post (some (.inl (L_save M k).1)) (L_save M k).2) : zz_T G md_Le_save [.inr (.inr (5, 0, 0)), .inl k] M post := by
  refine en_Le_save hG rfl (fun Z ok => ?_)
  refine zz_cS ok rfl trivial rfl lk_Le_50 ca_Le_isWithin rfl rfl rfl (sp_Le_isWithin hG ?_)
  refine zz_b ok rfl trivial rfl (fun h6 => ?_) (fun h6 => ?_)
  · skip
    have h6 := wi_of h6
    refine zz_i ok rfl trivial rfl rfl ?_
    exact zz_pq h (by simp [L_save, nsv, h6]) (by simp [L_save, nsv, h6])
  · skip
    have h6 := wi_nof h6
    obtain ⟨i, hi, rfl⟩ := ni_w (N := 1) (by decide) h6.1 h6.2
    refine zz_cV ok rfl ⟨ni_in hi (by decide), trivial⟩ rfl lk_Le_257 ca_Wo_copyWorld rfl rfl rfl rfl rfl (sp_Wo_copyWorld hG (by omega) hw ?_)
    refine zz_i ok rfl ⟨⟨ni_in hi (by decide), Or.inr rfl⟩, trivial⟩ rfl rfl ?_
    exact zz_pq h (by simp [L_save, nsv, h6]) (by simp [L_save, nsv, h6])
theorem sp_Le_restore {G : zG} {post : Option zV → zM → Prop} {M : zM} {k : Int32} (hw : ∀ i, i < 2 → M.1 (15, 0, 0) i ≠ 0 → wr M (i + 1)) (hG : zz_go G) (h : post (some (.inl (L_restore M k).1)) (L_restore M k).2) : zz_T G md_Le_restore [.inr (.inr (5, 0, 0)), .inl k] M post := by
  refine en_Le_restore hG rfl (fun Z ok => ?_)
  refine zz_cS ok rfl trivial rfl lk_Le_50 ca_Le_isWithin rfl rfl rfl (sp_Le_isWithin hG ?_)
  refine zz_b ok rfl trivial rfl (fun h6 => ?_) (fun h6 => ?_)
  · skip
    have h6 := wi_of h6
    refine zz_i ok rfl trivial rfl rfl ?_
    exact zz_pq h (by simp [L_restore, nsv, h6]) (by simp [L_restore, nsv, h6])
  · skip
    have h6 := wi_nof h6
    obtain ⟨i, hi, rfl⟩ := ni_w (N := 1) (by decide) h6.1 h6.2
    have ei : zz_ix (nI i) = i := zz_ixn (by omega)
    refine zz_b ok rfl ⟨ni_in hi (by decide), trivial⟩ rfl (fun h19 => ?_) (fun h19 => ?_)
    · skip
      refine zz_i ok rfl trivial rfl rfl ?_
      exact zz_pq h (by simp [L_restore, nsv, h6, h19]) (by simp [L_restore, nsv, h6, h19])
    · skip
      refine zz_cV ok rfl ⟨ni_in hi (by decide), trivial⟩ rfl lk_Le_257 ca_Wo_copyWorld rfl rfl rfl rfl rfl (sp_Wo_copyWorld hG (by omega) (by rw [ei] at h19 ⊢; exact hw i hi h19) ?_)
      refine zz_i ok rfl trivial rfl rfl ?_
      exact zz_pq h (by simp [L_restore, nsv, h6, h19]) (by simp [L_restore, nsv, h6, h19])
theorem sp_Le_makeCall {G : zG} {post : Option zV → zM → Prop} {M : zM} {l a b c : Int32} (hw : wr M 0) (hG : zz_go G) (h : post (some (.inl (L_mk M l a b c).1)) (L_mk M l a b c).2) : zz_T G md_Le_makeCall [.inr (.inr (5, 0, 0)), .inl l, .inl a, .inl b, .inl c] M post := by
  refine en_Le_makeCall hG rfl (fun Z ok => ?_)
  refine zz_g ok rfl trivial ?_
  refine zz_tsw ok sw_Le_makeCall_1 [(97, 108), (98, 146), (99, 165), (100, 181), (101, 181), (102, 181), (103, 122), (104, 128), (105, 181), (106, 181), (107, 181), (108, 181), (109, 173), (110, 181), (111, 181), (112, 152), (113, 181), (114, 115), (115, 158), (116, 181), (117, 181), (118, 181), (119, 137)] 181 (by decide +kernel) ?_
  refine ⟨fun h1_97 => ?_, fun h1_97 => ?_⟩
  · skip
    refine zz_cV ok rfl trivial rfl lk_Le_286 ca_Le_acquire rfl rfl rfl rfl rfl (sp_Le_acquire hw hG ?_)
    refine zz_i ok rfl trivial rfl rfl ?_
    exact zz_pq h (by simp [L_mk, h1_97]) (by simp [L_mk, h1_97])
  refine ⟨fun h1_98 => ?_, fun h1_98 => ?_⟩
  · skip
    refine zz_cV ok rfl trivial rfl lk_Le_301 ca_Le_barrier rfl rfl rfl rfl rfl (sp_Le_barrier hw hG ?_)
    refine zz_i ok rfl trivial rfl rfl ?_
    exact zz_pq h (by simp [L_mk, h1_97, h1_98]) (by simp [L_mk, h1_97, h1_98])
  refine ⟨fun h1_99 => ?_, fun h1_99 => ?_⟩
  · skip
    refine zz_cV ok rfl trivial rfl lk_Le_310 ca_Le_setLink rfl rfl rfl rfl rfl (sp_Le_setLink hG ?_)
    refine zz_i ok rfl trivial rfl rfl ?_
    exact zz_pq h (by simp [L_mk, h1_97, h1_98, h1_99]) (by simp [L_mk, h1_97, h1_98, h1_99])
  refine ⟨fun h1_100 => ?_, fun h1_100 => ?_⟩
  · skip
    refine zz_i ok rfl trivial rfl rfl ?_
    exact zz_pq h (by simp [L_mk, h1_97, h1_98, h1_99, h1_100]) (by simp [L_mk, h1_97, h1_98, h1_99, h1_100])
  refine ⟨fun h1_101 => ?_, fun h1_101 => ?_⟩
  · skip
    refine zz_i ok rfl trivial rfl rfl ?_
    exact zz_pq h (by simp [L_mk, h1_97, h1_98, h1_99, h1_100, h1_101]) (by simp [L_mk, h1_97, h1_98, h1_99, h1_100, h1_101])
  refine ⟨fun h1_102 => ?_, fun h1_102 => ?_⟩
  · skip
    refine zz_i ok rfl trivial rfl rfl ?_
    exact zz_pq h (by simp [L_mk, h1_97, h1_98, h1_99, h1_100, h1_101, h1_102]) (by simp [L_mk, h1_97, h1_98, h1_99, h1_100, h1_101, h1_102])
  refine ⟨fun h1_103 => ?_, fun h1_103 => ?_⟩
  · skip
    refine zz_cV ok rfl trivial rfl lk_Le_292 ca_Le_giveUp rfl rfl rfl rfl rfl (sp_Le_giveUp hG ?_)
    refine zz_i ok rfl trivial rfl rfl ?_
    exact zz_pq h (by simp [L_mk, h1_97, h1_98, h1_99, h1_100, h1_101, h1_102, h1_103]) (by simp [L_mk, h1_97, h1_98, h1_99, h1_100, h1_101, h1_102, h1_103])
  refine ⟨fun h1_104 => ?_, fun h1_104 => ?_⟩
  · skip
    refine zz_cV ok rfl trivial rfl lk_Le_295 ca_Le_handOver rfl rfl rfl rfl rfl (sp_Le_handOver hw hG ?_)
    refine zz_i ok rfl trivial rfl rfl ?_
    exact zz_pq h (by simp [L_mk, h1_97, h1_98, h1_99, h1_100, h1_101, h1_102, h1_103, h1_104]) (by simp [L_mk, h1_97, h1_98, h1_99, h1_100, h1_101, h1_102, h1_103, h1_104])
  refine ⟨fun h1_105 => ?_, fun h1_105 => ?_⟩
  · skip
    refine zz_i ok rfl trivial rfl rfl ?_
    exact zz_pq h (by simp [L_mk, h1_97, h1_98, h1_99, h1_100, h1_101, h1_102, h1_103, h1_104, h1_105]) (by simp [L_mk, h1_97, h1_98, h1_99, h1_100, h1_101, h1_102, h1_103, h1_104, h1_105])
  refine ⟨fun h1_106 => ?_, fun h1_106 => ?_⟩
  · skip
    refine zz_i ok rfl trivial rfl rfl ?_
    exact zz_pq h (by simp [L_mk, h1_97, h1_98, h1_99, h1_100, h1_101, h1_102, h1_103, h1_104, h1_105, h1_106]) (by simp [L_mk, h1_97, h1_98, h1_99, h1_100, h1_101, h1_102, h1_103, h1_104, h1_105, h1_106])
  refine ⟨fun h1_107 => ?_, fun h1_107 => ?_⟩
  · skip
    refine zz_i ok rfl trivial rfl rfl ?_
    exact zz_pq h (by simp [L_mk, h1_97, h1_98, h1_99, h1_100, h1_101, h1_102, h1_103, h1_104, h1_105, h1_106, h1_107]) (by simp [L_mk, h1_97, h1_98, h1_99, h1_100, h1_101, h1_102, h1_103, h1_104, h1_105, h1_106, h1_107])
  refine ⟨fun h1_108 => ?_, fun h1_108 => ?_⟩
  · skip
    refine zz_i ok rfl trivial rfl rfl ?_
    exact zz_pq h (by simp [L_mk, h1_97, h1_98, h1_99, h1_100, h1_101, h1_102, h1_103, h1_104, h1_105, h1_106, h1_107, h1_108]) (by simp [L_mk, h1_97, h1_98, h1_99, h1_100, h1_101, h1_102, h1_103, h1_104, h1_105, h1_106, h1_107, h1_108])
  refine ⟨fun h1_109 => ?_, fun h1_109 => ?_⟩
  · skip
    refine zz_cV ok rfl trivial rfl lk_Le_310 ca_Le_setLink rfl rfl rfl rfl rfl (sp_Le_setLink hG ?_)
    refine zz_i ok rfl trivial rfl rfl ?_
    exact zz_pq h (by simp [L_mk, h1_97, h1_98, h1_99, h1_100, h1_101, h1_102, h1_103, h1_104, h1_105, h1_106, h1_107, h1_108, h1_109]) (by simp [L_mk, h1_97, h1_98, h1_99, h1_100, h1_101, h1_102, h1_103, h1_104, h1_105, h1_106, h1_107, h1_108, h1_109])
  refine ⟨fun h1_110 => ?_, fun h1_110 => ?_⟩
  · skip
    refine zz_i ok rfl trivial rfl rfl ?_
    exact zz_pq h (by simp [L_mk, h1_97, h1_98, h1_99, h1_100, h1_101, h1_102, h1_103, h1_104, h1_105, h1_106, h1_107, h1_108, h1_109, h1_110]) (by simp [L_mk, h1_97, h1_98, h1_99, h1_100, h1_101, h1_102, h1_103, h1_104, h1_105, h1_106, h1_107, h1_108, h1_109, h1_110])
  refine ⟨fun h1_111 => ?_, fun h1_111 => ?_⟩
  · skip
    refine zz_i ok rfl trivial rfl rfl ?_
    exact zz_pq h (by simp [L_mk, h1_97, h1_98, h1_99, h1_100, h1_101, h1_102, h1_103, h1_104, h1_105, h1_106, h1_107, h1_108, h1_109, h1_110, h1_111]) (by simp [L_mk, h1_97, h1_98, h1_99, h1_100, h1_101, h1_102, h1_103, h1_104, h1_105, h1_106, h1_107, h1_108, h1_109, h1_110, h1_111])
  refine ⟨fun h1_112 => ?_, fun h1_112 => ?_⟩
  · skip
    refine zz_cV ok rfl trivial rfl lk_Le_304 ca_Le_pass rfl rfl rfl rfl rfl (sp_Le_pass hw hG ?_)
    refine zz_i ok rfl trivial rfl rfl ?_
    exact zz_pq h (by simp [L_mk, h1_97, h1_98, h1_99, h1_100, h1_101, h1_102, h1_103, h1_104, h1_105, h1_106, h1_107, h1_108, h1_109, h1_110, h1_111, h1_112]) (by simp [L_mk, h1_97, h1_98, h1_99, h1_100, h1_101, h1_102, h1_103, h1_104, h1_105, h1_106, h1_107, h1_108, h1_109, h1_110, h1_111, h1_112])
  refine ⟨fun h1_113 => ?_, fun h1_113 => ?_⟩
  · skip
    refine zz_i ok rfl trivial rfl rfl ?_
    exact zz_pq h (by simp [L_mk, h1_97, h1_98, h1_99, h1_100, h1_101, h1_102, h1_103, h1_104, h1_105, h1_106, h1_107, h1_108, h1_109, h1_110, h1_111, h1_112, h1_113]) (by simp [L_mk, h1_97, h1_98, h1_99, h1_100, h1_101, h1_102, h1_103, h1_104, h1_105, h1_106, h1_107, h1_108, h1_109, h1_110, h1_111, h1_112, h1_113])
  refine ⟨fun h1_114 => ?_, fun h1_114 => ?_⟩
  · skip
    refine zz_cV ok rfl trivial rfl lk_Le_289 ca_Le_renew rfl rfl rfl rfl rfl (sp_Le_renew hw hG ?_)
    refine zz_i ok rfl trivial rfl rfl ?_
    exact zz_pq h (by simp [L_mk, h1_97, h1_98, h1_99, h1_100, h1_101, h1_102, h1_103, h1_104, h1_105, h1_106, h1_107, h1_108, h1_109, h1_110, h1_111, h1_112, h1_113, h1_114]) (by simp [L_mk, h1_97, h1_98, h1_99, h1_100, h1_101, h1_102, h1_103, h1_104, h1_105, h1_106, h1_107, h1_108, h1_109, h1_110, h1_111, h1_112, h1_113, h1_114])
  refine ⟨fun h1_115 => ?_, fun h1_115 => ?_⟩
  · skip
    refine zz_cV ok rfl trivial rfl lk_Le_307 ca_Le_setState rfl rfl rfl rfl rfl (sp_Le_setState hG ?_)
    refine zz_i ok rfl trivial rfl rfl ?_
    exact zz_pq h (by simp [L_mk, h1_97, h1_98, h1_99, h1_100, h1_101, h1_102, h1_103, h1_104, h1_105, h1_106, h1_107, h1_108, h1_109, h1_110, h1_111, h1_112, h1_113, h1_114, h1_115]) (by simp [L_mk, h1_97, h1_98, h1_99, h1_100, h1_101, h1_102, h1_103, h1_104, h1_105, h1_106, h1_107, h1_108, h1_109, h1_110, h1_111, h1_112, h1_113, h1_114, h1_115])
  refine ⟨fun h1_116 => ?_, fun h1_116 => ?_⟩
  · skip
    refine zz_i ok rfl trivial rfl rfl ?_
    exact zz_pq h (by simp [L_mk, h1_97, h1_98, h1_99, h1_100, h1_101, h1_102, h1_103, h1_104, h1_105, h1_106, h1_107, h1_108, h1_109, h1_110, h1_111, h1_112, h1_113, h1_114, h1_115, h1_116]) (by simp [L_mk, h1_97, h1_98, h1_99, h1_100, h1_101, h1_102, h1_103, h1_104, h1_105, h1_106, h1_107, h1_108, h1_109, h1_110, h1_111, h1_112, h1_113, h1_114, h1_115, h1_116])
  refine ⟨fun h1_117 => ?_, fun h1_117 => ?_⟩
  · skip
    refine zz_i ok rfl trivial rfl rfl ?_
    exact zz_pq h (by simp [L_mk, h1_97, h1_98, h1_99, h1_100, h1_101, h1_102, h1_103, h1_104, h1_105, h1_106, h1_107, h1_108, h1_109, h1_110, h1_111, h1_112, h1_113, h1_114, h1_115, h1_116, h1_117]) (by simp [L_mk, h1_97, h1_98, h1_99, h1_100, h1_101, h1_102, h1_103, h1_104, h1_105, h1_106, h1_107, h1_108, h1_109, h1_110, h1_111, h1_112, h1_113, h1_114, h1_115, h1_116, h1_117])
  refine ⟨fun h1_118 => ?_, fun h1_118 => ?_⟩
  · skip
    refine zz_i ok rfl trivial rfl rfl ?_
    exact zz_pq h (by simp [L_mk, h1_97, h1_98, h1_99, h1_100, h1_101, h1_102, h1_103, h1_104, h1_105, h1_106, h1_107, h1_108, h1_109, h1_110, h1_111, h1_112, h1_113, h1_114, h1_115, h1_116, h1_117, h1_118]) (by simp [L_mk, h1_97, h1_98, h1_99, h1_100, h1_101, h1_102, h1_103, h1_104, h1_105, h1_106, h1_107, h1_108, h1_109, h1_110, h1_111, h1_112, h1_113, h1_114, h1_115, h1_116, h1_117, h1_118])
  refine ⟨fun h1_119 => ?_, fun h1_119 => ?_⟩
  · skip
    refine zz_cV ok rfl trivial rfl lk_Le_298 ca_Le_write rfl rfl rfl rfl rfl (sp_Le_write hw hG ?_)
    refine zz_i ok rfl trivial rfl rfl ?_
    exact zz_pq h (by simp [L_mk, h1_97, h1_98, h1_99, h1_100, h1_101, h1_102, h1_103, h1_104, h1_105, h1_106, h1_107, h1_108, h1_109, h1_110, h1_111, h1_112, h1_113, h1_114, h1_115, h1_116, h1_117, h1_118, h1_119]) (by simp [L_mk, h1_97, h1_98, h1_99, h1_100, h1_101, h1_102, h1_103, h1_104, h1_105, h1_106, h1_107, h1_108, h1_109, h1_110, h1_111, h1_112, h1_113, h1_114, h1_115, h1_116, h1_117, h1_118, h1_119])
  refine zz_i ok rfl trivial rfl rfl ?_
  exact zz_pq h (by simp [L_mk, h1_97, h1_98, h1_99, h1_100, h1_101, h1_102, h1_103, h1_104, h1_105, h1_106, h1_107, h1_108, h1_109, h1_110, h1_111, h1_112, h1_113, h1_114, h1_115, h1_116, h1_117, h1_118, h1_119]) (by simp [L_mk, h1_97, h1_98, h1_99, h1_100, h1_101, h1_102, h1_103, h1_104, h1_105, h1_106, h1_107, h1_108, h1_109, h1_110, h1_111, h1_112, h1_113, h1_114, h1_115, h1_116, h1_117, h1_118, h1_119])
theorem r_1_fr {M : zM} {i : Nat} : (∀ j, (r_1 i M).1 (2, 0, 0) j = M.1 (2, 0, 0) j) ∧ (∀ j, (r_1 i M).1 (17, 0, 0) j = M.1 (17, 0, 0) j) ∧ (∀ j, (r_1 i M).1 (18, 0, 0) j = M.1 (18, 0, 0) j) := by
  have h := L_mk_fr (M := M) (l := M.1 (17, 0, 0) i) (a := M.1 (18, 0, 0) (3 * i)) (b := M.1 (18, 0, 0) (3 * i + 1)) (c := M.1 (18, 0, 0) (3 * i + 2))
  refine ⟨fun j => ?_, fun j => ?_, fun j => ?_⟩
  · unfold r_1; rw [zz_gs, if_neg (by simp)]; exact h.2 _ _ rfl
  · unfold r_1; rw [zz_gs, if_neg (by simp)]; exact h.2 _ _ rfl
  · unfold r_1; rw [zz_gs, if_neg (by simp)]; exact h.2 _ _ rfl
theorem r_1_wr {M : zM} {i : Nat} (h : wr M 0) : wr (r_1 i M) 0 := wr_set rfl (L_mk_wr h)
theorem sc_tk_wr {M : zM} {l : Int32} {w : Nat} (h : wr M w) : wr (sc_tk M l).2 w := by
  unfold sc_tk sc_td sc_ec sc_bc sc_d1
  split
  · split
    · exact h
    · split
      · exact wr_set rfl (wr_set rfl h)
      · exact wr_set rfl (wr_set rfl (wr_set rfl h))
  · split
    · exact wr_set rfl h
    · split
      · split
        · exact wr_set rfl h
        · exact wr_set rfl (wr_set rfl (wr_set rfl h))
      · split
        · exact wr_set rfl (wr_set rfl h)
        · exact wr_set rfl (wr_set rfl (wr_set rfl (wr_set rfl (wr_set rfl h))))
theorem sc_pl_wr {w : Nat} : ∀ (f i : Nat) (M : zM), wr M w → wr (sc_pl f i M).2 w
  | 0, _, _, h => h
  | f + 1, i, M, h => by
    unfold sc_pl; split
    · exact sc_tk_wr h
    · exact sc_pl_wr f (i + 1) _ (sc_tk_wr h)
theorem sc_pX_wr {M : zM} {n w : Nat} (h : wr M w) : wr (sc_pX M n).2 w := by
  unfold sc_pX sc_p0
  exact sc_pl_wr _ _ _ (wr_set rfl (wr_set rfl (wr_set rfl h)))
theorem sc_pl_c : ∀ (f i c : Nat) (M : zM), M.1 (2, 0, 0) 5 = nI c → ∃ c', c' ≤ c + f ∧ (sc_pl f i M).2.1 (2, 0, 0) 5 = nI c'
  | 0, _, c, M, h => ⟨c, by omega, h⟩
  | f + 1, i, c, M, h => by
    obtain ⟨c1, h1, h2⟩ := sc_tk_kp (l := M.1 (16, 0, 0) i) h
    unfold sc_pl; split
    · exact ⟨c1, by omega, h2.2.2⟩
    · obtain ⟨c2, h3, h4⟩ := sc_pl_c f (i + 1) c1 _ h2.2.2
      exact ⟨c2, by omega, h4⟩
theorem sc_pX_c (M : zM) (n : Nat) : ∃ c, c ≤ n ∧ (sc_pX M n).2.1 (2, 0, 0) 5 = nI c := by
  obtain ⟨c, h1, h2⟩ := sc_pl_c n 0 0 (sc_p0 M) (by simp [sc_p0, zz_gs]; rfl)
  exact ⟨c, by omega, h2⟩
theorem sp_Le_run {G : zG} {post : Option zV → zM → Prop} {M : zM} {n : Nat} (hl : M.1 (2, 0, 0) 4 = nI n) (hn : n ≤ 100) (hw : wr M 0) (hG : zz_go G) (h : post (some (.inl (L_run M n).1)) (L_run M n).2) : zz_T G md_Le_run [.inr (.inr (5, 0, 0))] M post := by
  refine en_Le_run hG rfl (fun Z ok => ?_)
  obtain ⟨c, hcn, ec⟩ := sc_pX_c M n
  have ecx : zz_ix ((sc_pX M n).2.1 (2, 0, 0) 5) = c := ni_ix ec (by omega)
  refine zz_cV ok rfl trivial rfl lk_Le_235 ca_Sc_parse rfl rfl rfl rfl rfl (sp_Sc_parse hG hl hn ?_)
  refine zz_b ok rfl trivial rfl (fun h10 => ?_) (fun h10 => ?_)
  · skip
    have h10 := h10
    have lp21 : ∀ (f k : Nat), c - k < f → k ≤ min c 34 → ∀ (x2 : Int32) (M' : zM), x2 = nI k → M' = zz_it r_1 k (sc_pX M n).2 → wr M' 0 → M'.1 (2, 0, 0) 5 = nI c → zz_W G Z md_Le_run post 21 [(2, .inl x2), (1, .inl (sc_pr M n)), (0, .inr (.inr (5, 0, 0)))] [] M' := by
      intro f
      induction f with
      | zero => intro k hf; exact absurd hf (Nat.not_lt_zero _)
      | succ f ih => ?_
      intro k hf hk x2 M' e2 eM hw' hc'
      subst e2
      refine zz_b ok rfl trivial rfl (fun h29 => ?_) (fun h29 => ?_)
      · skip
        rw [hc', ni_ltn (by omega) (by omega)] at h29
        refine zz_b ok rfl trivial rfl (fun h35 => ?_) (fun h35 => ?_)
        · skip
          rw [ni_lit, ni_ltn (by omega) (by decide)] at h35
          have hk34 : k < 34 := h35
          refine zz_cV ok rfl (by and_intros <;> first | trivial | exact ni_in hk34 (by decide)) rfl lk_Le_247 ca_Sc_numberOf rfl rfl rfl rfl rfl (sp_Sc_numberOf hG rfl hk34 (j := 0) rfl (by decide) ?_)
          refine zz_cV ok rfl trivial rfl lk_Le_247 ca_Sc_numberOf rfl rfl rfl rfl rfl (sp_Sc_numberOf hG rfl hk34 (j := 1) rfl (by decide) ?_)
          refine zz_cV ok rfl trivial rfl lk_Le_247 ca_Sc_numberOf rfl rfl rfl rfl rfl (sp_Sc_numberOf hG rfl hk34 (j := 2) rfl (by decide) ?_)
          refine zz_cV ok rfl trivial rfl lk_Le_250 ca_Le_makeCall rfl rfl rfl rfl rfl (sp_Le_makeCall hw' hG ?_)
          refine zz_g ok rfl (by and_intros <;> first | trivial | exact ni_in hk34 (by decide)) ?_
          refine zz_pm [2, 1, 0] rfl ?_
          exact ih (k + 1) (by omega) (by omega) _ _ (nI_1 k) (by rw [zz_it, ← eM]; simp only [zz_ixn (show k < 2147483648 by omega)]; rfl) (by rw [zz_ixn (by omega)]; exact r_1_wr hw') (by have := (r_1_fr (M := M') (i := k)).1 5; rw [zz_ixn (by omega)]; exact this.trans hc')
        · skip
          rw [ni_lit, ni_ltn (by omega) (by decide)] at h35
          have hkc : k = min c 34 := by omega
          refine zz_i ok rfl trivial rfl rfl ?_
          have eQ : L_runQ M n = M' := by
            rw [L_runQ, ecx, ← hkc, eM]
          have h10b : ¬ ¬ sc_pr M n = -1 := fun q => q h10
          unfold L_run at h
          rw [if_neg h10b, eQ] at h
          exact zz_pq h (by simp [zz_gs]) rfl
      · skip
        rw [hc', ni_ltn (by omega) (by omega)] at h29
        have hkc : k = min c 34 := by omega
        refine zz_i ok rfl trivial rfl rfl ?_
        have eQ : L_runQ M n = M' := by
          rw [L_runQ, ecx, ← hkc, eM]
        have h10b : ¬ ¬ sc_pr M n = -1 := fun q => q h10
        unfold L_run at h
        rw [if_neg h10b, eQ] at h
        exact zz_pq h (by simp [zz_gs]) rfl
    refine zz_g ok rfl trivial ?_
    refine zz_pm [2, 1, 0] rfl ?_
    exact lp21 (c + 1) 0 (by omega) (by omega) _ _ rfl rfl (sc_pX_wr hw) ec
  · skip
    refine zz_i ok rfl trivial rfl rfl ?_
    exact zz_pq h (by simp [L_run, h10]) (by simp [L_run, h10])
