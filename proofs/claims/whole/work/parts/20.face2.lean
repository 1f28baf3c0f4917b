def mxl (h : Int64) (x : Int32) : Int64 := 31 * h + x.toInt64
def lf (f : Nat → Int32) : Nat → Int64 → Int64
  | 0, h => h
  | k + 1, h => mxl (lf f k h) (f k)
def c_lcb (M : zM) (run : Int32) : Nat → Int32
  | 0 => run
  | k + 1 => if (nI k &&& (run ^^^ -1)) = 0 ∧ bcx (nI k) < bcx (c_lcb M run k) ∧ c_sw M (nI k) 5 0 = true then nI k else c_lcb M run k
def c_sk (M : zM) (s : Nat) : Nat → Int32
  | 0 => 0
  | k + 1 => if lo_lv M 0 s (nI k) 2147483647 (cmn M 0 s) = lo_lv M 0 5 (nI k) 2147483647 (cmn M 0 5) then c_sk M s k else c_sk M s k + 1
def L_staleKeys (M : zM) (a : Int32) : Int32 := if nsv a then -1001 else c_sk M (zz_ix a) 8
def c_is1 (M : zM) (k : Nat) : Bool := lo_or M 0 k (rn M 0 k - 1) 1 && !decide (nI (ro_shared M 0 k 0 5 (min (rn M 0 k) (rn M 0 5))) < M.1 (0, 0, k) 1)
def c_is (M : zM) : Nat → Bool
  | 0 => !decide (1 < bcx (c_hs M 5))
  | k + 1 => c_is M k && c_is1 M k
def dg_s (M : zM) (s : Nat) (h : Int64) : Int64 := lf (fun i => L_log M (nI s) (nI i)) 5 (lf (fun i => L_known M (nI s) (nI i)) 5 (mxl (mxl (mxl h (L_clock M (nI s) 0)) (M.1 (3, 0, s) 3)) (L_holds M (nI s))))
def dg_S (M : zM) : Nat → Int64 → Int64
  | 0, h => h
  | k + 1, h => lf (M.1 (7, 0, k)) (4 * rn M 0 k) (dg_s M k (dg_S M k h))
def dg_C (M : zM) : Nat → Int64 → Int64
  | 0, h => h
  | k + 1, h => mxl (mxl (dg_C M k h) (M.1 (12, 0, 0) k)) (M.1 (13, 0, 0) k)
def L_digest (M : zM) : Int64 := lf (M.1 (11, 0, 0)) 5 (dg_C M 4 (lf (M.1 (7, 0, 11)) (4 * rn M 0 11) (dg_S M 5 (lf (fun i => L_count M (nI i)) 11 2525))))
def L_save (M : zM) (k : Int32) : Int32 × zM := if k < 0 ∨ 1 < k then (-1001, M) else ((zz_set (c_cw M (zz_ix k + 1) 0) (15, 0, 0) (zz_ix k) 1).1 (4, 0, 0) 9, zz_set (c_cw M (zz_ix k + 1) 0) (15, 0, 0) (zz_ix k) 1)
def L_restore (M : zM) (k : Int32) : Int32 × zM := if k < 0 ∨ 1 < k then (-1001, M) else if M.1 (15, 0, 0) (zz_ix k) = 0 then (-1002, M) else ((c_cw M 0 (zz_ix k + 1)).1 (4, 0, 0) 9, c_cw M 0 (zz_ix k + 1))
def r_1 (i : Nat) (M : zM) : zM := zz_set (L_mk M (M.1 (17, 0, 0) i) (M.1 (18, 0, 0) (3 * i)) (M.1 (18, 0, 0) (3 * i + 1)) (M.1 (18, 0, 0) (3 * i + 2))).2 (19, 0, 0) i (L_mk M (M.1 (17, 0, 0) i) (M.1 (18, 0, 0) (3 * i)) (M.1 (18, 0, 0) (3 * i + 1)) (M.1 (18, 0, 0) (3 * i + 2))).1
def L_runQ (M : zM) (n : Nat) : zM := zz_it r_1 (min (zz_ix ((sc_pX M n).2.1 (2, 0, 0) 5)) 34) (sc_pX M n).2
def L_run (M : zM) (n : Nat) : Int32 × zM := if ¬ sc_pr M n = -1 then (-2000 - sc_pr M n, (sc_pX M n).2) else ((L_runQ M n).1 (2, 0, 0) 5, zz_set (L_runQ M n) (2, 0, 0) 6 ((L_runQ M n).1 (2, 0, 0) 5))
def rsb (b0 b1 b2 b3 b4 : Bool) : Int32 := (((((0 : Int32) ||| (if b0 = true then 1 <<< (nI 0 &&& 31) else 0)) ||| (if b1 = true then 1 <<< (nI 1 &&& 31) else 0)) ||| (if b2 = true then 1 <<< (nI 2 &&& 31) else 0)) ||| (if b3 = true then 1 <<< (nI 3 &&& 31) else 0)) ||| (if b4 = true then 1 <<< (nI 4 &&& 31) else 0)
theorem rsb_in : ∀ b0 b1 b2 b3 b4 : Bool, ∃ r : Fin 32, rsb b0 b1 b2 b3 b4 = nI r.val := by decide +kernel
theorem c_rs_eq (M : zM) : c_rs M 5 = rsb (decide (M.1 (3, 0, 0) 3 = 0)) (decide (M.1 (3, 0, 1) 3 = 0)) (decide (M.1 (3, 0, 2) 3 = 0)) (decide (M.1 (3, 0, 3) 3 = 0)) (decide (M.1 (3, 0, 4) 3 = 0)) := by
  simp only [c_rs, rsb, decide_eq_true_eq]
theorem c_rs_in (M : zM) : ∃ R : Nat, R ≤ 31 ∧ c_rs M 5 = nI R := by
  rw [c_rs_eq]
  obtain ⟨r, hr⟩ := rsb_in (decide (M.1 (3, 0, 0) 3 = 0)) (decide (M.1 (3, 0, 1) 3 = 0)) (decide (M.1 (3, 0, 2) 3 = 0)) (decide (M.1 (3, 0, 3) 3 = 0)) (decide (M.1 (3, 0, 4) 3 = 0))
  exact ⟨r.val, by omega, hr⟩
theorem sp_Le_mix {G : zG} {post : Option zV → zM → Prop} {M : zM} {h0 : Int64} {x : Int32} (hG : zz_go G) (h : post (some (.inr (.inl (mxl h0 x)))) M) : zz_T G md_Le_mix [.inr (.inl h0), .inl x] M post := by
  refine en_Le_mix hG rfl (fun Z ok => ?_)
  refine zz_l ok rfl trivial rfl rfl ?_
  exact h
theorem sp_Le_pass {G : zG} {post : Option zV → zM → Prop} {M : zM} {t : Int32} (hw : wr M 0) (hG : zz_go G) (h : post (some (.inl (L_pass M t).1)) (L_pass M t).2) : zz_T G md_Le_pass [.inr (.inr (5, 0, 0)), .inl t] M post := by
  refine en_Le_pass hG rfl (fun Z ok => ?_)
  refine zz_cS ok rfl trivial rfl lk_Le_50 ca_Le_isWithin rfl rfl rfl (sp_Le_isWithin hG ?_)
  refine zz_b ok rfl trivial rfl (fun h8 => ?_) (fun h8 => ?_)
  · skip
    have h8 := wi_of h8
    refine zz_i ok rfl trivial rfl rfl ?_
    exact zz_pq h (by simp [L_pass, nsv, h8]) (by simp [L_pass, nsv, h8])
  · skip
    have h8 := wi_nof h8
    obtain ⟨T, hT, rfl⟩ : ∃ T : Nat, T ≤ 200 ∧ t = nI T := by
      have h1 := h8.1; have h2 := h8.2
      rw [ni_lt] at h1 h2
      have e1 : (1 : Int32).toInt = 1 := rfl
      have e2 : (200 : Int32).toInt = 200 := rfl
      obtain ⟨n, hn, e⟩ := ni_of (x := t) (N := 201) (by omega) (by omega)
      exact ⟨n, by omega, e⟩
    have eT : zz_ix (nI T) = T := zz_ixn (by omega)
    refine zz_b ok rfl trivial rfl (fun h26 => ?_) (fun h26 => ?_)
    · skip
      refine zz_i ok rfl trivial rfl rfl ?_
      exact zz_pq h (by simp [L_pass, nsv, h8, h26]) (by simp [L_pass, nsv, h8, h26])
    · skip
      have lp35 : ∀ (f k : Nat), T - k < f → k ≤ T → ∀ (x2 : Int32) (M' : zM), x2 = nI k → M' = c_tks M k → wr M' 0 → zz_W G Z md_Le_pass post 35 [(2, .inl x2), (1, .inl (nI T)), (0, .inr (.inr (5, 0, 0)))] [] M' := by
        intro f
        induction f with
        | zero => intro k hf; exact absurd hf (Nat.not_lt_zero _)
        | succ f ih => ?_
        intro k hf hk x2 M' e2 eM hw'
        subst e2
        refine zz_b ok rfl trivial rfl (fun h37 => ?_) (fun h37 => ?_)
        · skip
          rw [ni_ltn (by omega) (by omega)] at h37
          refine zz_cV ok rfl trivial rfl lk_Le_77 ca_Wo_tick rfl rfl rfl rfl rfl (sp_Wo_tick hG hw' ?_)
          refine zz_g ok rfl trivial ?_
          refine zz_pm [2, 1, 0] rfl ?_
          exact ih (k + 1) (by omega) (by omega) _ _ (nI_1 k) (by rw [eM]; rfl) (c_tk_wr hw')
        · skip
          rw [ni_ltn (by omega) (by omega)] at h37
          have hkT : k = T := by omega
          subst hkT
          refine zz_i ok rfl trivial rfl rfl ?_
          subst eM
          exact zz_pq h (by simp [L_pass, h8, h26, eT]) (by simp [L_pass, h8, h26, eT])
      refine zz_g ok rfl trivial ?_
      refine zz_pm [2, 1, 0] rfl ?_
      exact lp35 (T + 1) 0 (by omega) (by omega) _ _ rfl rfl hw
theorem sp_Le_leastCrashes {G : zG} {post : Option zV → zM → Prop} {M : zM} (hG : zz_go G) (hw : wr M 0) (h : post (some (.inl (c_lcb M (c_rs M 5) (zz_ix (c_rs M 5) + 1)))) M) : zz_T G md_Le_leastCrashes [.inr (.inr (5, 0, 0))] M post := by
  refine en_Le_leastCrashes hG rfl (fun Z ok => ?_)
  obtain ⟨R, hR, eR⟩ := c_rs_in M
  have eR2 : zz_ix (c_rs M 5) = R := ni_ix eR (by omega)
  rw [eR2] at h
  refine zz_cV ok rfl trivial rfl lk_Le_213 ca_Wo_runningServers rfl rfl rfl rfl rfl (sp_Wo_runningServers hG ?_)
  have lp12 : ∀ (f k : Nat), R + 1 - k < f → k ≤ R + 1 → ∀ (x3 x2 : Int32), x3 = nI k → x2 = c_lcb M (c_rs M 5) k → zz_W G Z md_Le_leastCrashes post 12 [(3, .inl x3), (2, .inl x2), (1, .inl (c_rs M 5)), (0, .inr (.inr (5, 0, 0)))] [] M := by
    intro f
    induction f with
    | zero => intro k hf; exact absurd hf (Nat.not_lt_zero _)
    | succ f ih => ?_
    intro k hf hk x3 x2 e3 e2
    subst e3; subst e2
    refine zz_b ok rfl trivial rfl (fun h14 => ?_) (fun h14 => ?_)
    · skip
      rw [eR, ni_ltn (by omega) (by omega)] at h14
      have hkR : k = R + 1 := by omega
      subst hkR
      refine zz_i ok rfl trivial rfl rfl ?_
      exact h
    · skip
      rw [eR, ni_ltn (by omega) (by omega)] at h14
      refine zz_b ok rfl trivial rfl (fun h22 => ?_) (fun h22 => ?_)
      · skip
        refine zz_b ok rfl trivial rfl (fun h34 => ?_) (fun h34 => ?_)
        · skip
          exact absurd h34 (by decide)
        · skip
          skip
          refine zz_cS ok rfl trivial rfl lk_Le_217 ca_In_bitCount rfl rfl rfl (sp_In_bitCount hG ?_)
          refine zz_cS ok rfl trivial rfl lk_Le_217 ca_In_bitCount rfl rfl rfl (sp_In_bitCount hG ?_)
          refine zz_b ok rfl trivial rfl (fun h45 => ?_) (fun h45 => ?_)
          · skip
            refine zz_cV ok rfl trivial rfl lk_Le_220 ca_Wo_isStoppedWithout rfl rfl rfl rfl rfl (sp_Wo_isStoppedWithout hG hw ?_)
            refine zz_b ok rfl trivial rfl (fun h56 => ?_) (fun h56 => ?_)
            · skip
              simp only [zz_bi0, Bool.not_eq_false] at h56
              refine zz_g ok rfl trivial ?_
              refine zz_pm [3, 2, 1, 0] rfl ?_
              exact ih (k + 1) (by omega) (by omega) _ _ (nI_1 k) (by rw [c_lcb, if_neg (by simp [h56])])
            · skip
              simp only [zz_bi0, Bool.not_eq_false] at h56
              refine zz_g ok rfl trivial ?_
              refine zz_pm [3, 2, 1, 0] rfl ?_
              exact ih (k + 1) (by omega) (by omega) _ _ (nI_1 k) (by rw [c_lcb, if_pos ⟨h22, h45, h56⟩])
          · skip
            refine zz_g ok rfl trivial ?_
            refine zz_pm [3, 2, 1, 0] rfl ?_
            exact ih (k + 1) (by omega) (by omega) _ _ (nI_1 k) (by rw [c_lcb, if_neg (fun q => h45 q.2.1)])
      · skip
        refine zz_b ok rfl trivial rfl (fun h34 => ?_) (fun h34 => ?_)
        · skip
          skip
          refine zz_g ok rfl trivial ?_
          refine zz_pm [3, 2, 1, 0] rfl ?_
          exact ih (k + 1) (by omega) (by omega) _ _ (nI_1 k) (by rw [c_lcb, if_neg (fun q => h22 q.1)])
        · skip
          exact absurd rfl h34
  refine zz_g ok rfl trivial ?_
  refine zz_pm [3, 2, 1, 0] rfl ?_
  exact lp12 (R + 2) 0 (by omega) (by omega) _ _ rfl rfl
theorem sp_Le_staleKeys {G : zG} {post : Option zV → zM → Prop} {M : zM} {a : Int32} (hw : wr M 0) (hc : wc M 0) (hG : zz_go G) (h : post (some (.inl (L_staleKeys M a))) M) : zz_T G md_Le_staleKeys [.inr (.inr (5, 0, 0)), .inl a] M post := by
  refine en_Le_staleKeys hG rfl (fun Z ok => ?_)
  refine zz_cS ok rfl trivial rfl lk_Le_42 ca_Le_isServer rfl rfl rfl (sp_Le_isServer hG ?_)
  try simp only [es]
  refine zz_b ok rfl trivial rfl (fun h4 => ?_) (fun h4 => ?_)
  · skip
    try simp only [es] at h4 ⊢
    have h4 := wi_of h4
    refine zz_i ok rfl trivial rfl rfl ?_
    exact zz_pq h (by simp [L_staleKeys, nsv, h4]) rfl
  · skip
    try simp only [es] at h4 ⊢
    have h4 := wi_nof h4
    obtain ⟨s, hs, rfl⟩ := ni_w (N := 4) (by decide) h4.1 h4.2
    have es := ni_e5 hs
    have lp15 : ∀ (f k : Nat), 8 - k < f → k ≤ 8 → ∀ (x3 x2 : Int32), x3 = nI k → x2 = c_sk M s k → zz_W G Z md_Le_staleKeys post 15 [(3, .inl x3), (2, .inl x2), (1, .inl (nI s)), (0, .inr (.inr (5, 0, 0)))] [] M := by
      intro f
      induction f with
      | zero => intro k hf; exact absurd hf (Nat.not_lt_zero _)
      | succ f ih => ?_
      intro k hf hk x3 x2 e3 e2
      subst e3; subst e2
      refine zz_b ok rfl trivial rfl (fun h18 => ?_) (fun h18 => ?_)
      · skip
        try simp only [es] at h18 ⊢
        rw [ni_lit, ni_ltn (by omega) (by decide)] at h18
        refine zz_cV ok rfl (by and_intros <;> first | trivial | exact ni_5 hs | exact ni_5 hv) rfl lk_Le_156 ca_Lo_lastValue rfl rfl rfl rfl rfl (sp_Lo_lastValue (n := rn M 0 s) (c := cmn M 0 s) hG (by rw [es]; exact (hw s (by omega)).1) (by rw [es]; exact (hw s (by omega)).2) (by rw [es]; exact (hc s (by omega)).1) (hc s (by omega)).2 ?_)
        try simp only [es]
        refine zz_cV ok rfl trivial rfl lk_Le_156 ca_Lo_lastValue rfl rfl rfl rfl rfl (sp_Lo_lastValue hG (hw 5 (by decide)).1 (hw 5 (by decide)).2 (hc 5 (by decide)).1 (hc 5 (by decide)).2 ?_)
        try simp only [es]
        refine zz_b ok rfl trivial rfl (fun h56 => ?_) (fun h56 => ?_)
        · skip
          try simp only [es] at h56 ⊢
          refine zz_g ok rfl trivial ?_
          refine zz_pm [3, 2, 1, 0] rfl ?_
          exact ih (k + 1) (by omega) (by omega) _ _ (nI_1 k) (by rw [c_sk, if_pos h56])
        · skip
          try simp only [es] at h56 ⊢
          refine zz_g ok rfl trivial ?_
          refine zz_pm [3, 2, 1, 0] rfl ?_
          exact ih (k + 1) (by omega) (by omega) _ _ (nI_1 k) (by rw [c_sk, if_neg h56])
      · skip
        try simp only [es] at h18 ⊢
        rw [ni_lit, ni_ltn (by omega) (by decide)] at h18
        have hk8 : k = 8 := by omega
        subst hk8
        refine zz_i ok rfl trivial rfl rfl ?_
        exact zz_pq h (by simp [L_staleKeys, nsv, es, h4]) rfl
    refine zz_g ok rfl trivial ?_
    refine zz_pm [3, 2, 1, 0] rfl ?_
    exact lp15 9 0 (by omega) (by omega) _ _ rfl rfl
theorem sp_Le_isSafe {G : zG} {post : Option zV → zM → Prop} {M : zM} (hG : zz_go G) (hw : wr M 0) (h : post (some (.inl (zz_bi (c_is M 5)))) M) : zz_T G md_Le_isSafe [.inr (.inr (5, 0, 0))] M post := by
  refine en_Le_isSafe hG rfl (fun Z ok => ?_)
  refine zz_cV ok rfl trivial rfl lk_Le_223 ca_Wo_holders rfl rfl rfl rfl rfl (sp_Wo_holders hG ?_)
  try simp only [ek]
  refine zz_cS ok rfl trivial rfl lk_Le_217 ca_In_bitCount rfl rfl rfl (sp_In_bitCount hG ?_)
  try simp only [ek]
  refine zz_b ok rfl trivial rfl (fun h11 => ?_) (fun h11 => ?_)
  · skip
    try simp only [ek] at h11 ⊢
    have lp22 : ∀ (f k : Nat), 5 - k < f → k ≤ 5 → ∀ (x2 x1 : Int32), x2 = nI k → x1 = zz_bi (c_is M k) → zz_W G Z md_Le_isSafe post 22 [(2, .inl x2), (1, .inl x1), (0, .inr (.inr (5, 0, 0)))] [] M := by
      intro f
      induction f with
      | zero => intro k hf; exact absurd hf (Nat.not_lt_zero _)
      | succ f ih => ?_
      intro k hf hk x2 x1 e2 e1
      subst e2; subst e1
      refine zz_b ok rfl trivial rfl (fun h24 => ?_) (fun h24 => ?_)
      · skip
        try simp only [ek] at h24 ⊢
        rw [ni_lit, ni_ltn (by omega) (by decide)] at h24
        have hk5 : k < 5 := h24
        have ek := ni_e5 hk5
        refine zz_b ok rfl ⟨ni_5 hk5, trivial⟩ rfl (fun h41 => ?_) (fun h41 => ?_)
        · skip
          try simp only [ek] at h41 ⊢
          simp only [zz_bi0, Bool.not_eq_false] at h41
          try simp only [ek]
          refine zz_g ok rfl trivial ?_
          refine zz_pm [2, 1, 0] rfl ?_
          exact ih (k + 1) (by omega) (by omega) _ _ (nI_1 k) (by simp [c_is, c_is1, zz_bi, h11, h24, h41])
        · skip
          try simp only [ek] at h41 ⊢
          simp only [zz_bi0, Bool.not_eq_false] at h41
          try simp only [ek]
          refine zz_cV ok rfl trivial rfl lk_Le_226 ca_Lo_isOrdered rfl rfl rfl rfl rfl (sp_Lo_isOrdered (n := rn M 0 k) hG (hw k (by omega)).1 (hw k (by omega)).2 ?_)
          try simp only [ek]
          refine zz_b ok rfl trivial rfl (fun h48 => ?_) (fun h48 => ?_)
          · skip
            try simp only [ek] at h48 ⊢
            simp only [zz_bi0, Bool.not_eq_false] at h48
            refine zz_g ok rfl trivial ?_
            refine zz_pm [2, 1, 0] rfl ?_
            exact ih (k + 1) (by omega) (by omega) _ _ (nI_1 k) (by simp [c_is, c_is1, zz_bi, h11, h24, h41, h48])
          · skip
            try simp only [ek] at h48 ⊢
            simp only [zz_bi0, Bool.not_eq_false] at h48
            refine zz_cV ok rfl trivial rfl lk_Le_177 ca_Ro_sharedStart rfl rfl rfl rfl rfl (sp_Ro_sharedStart hG (hw k (by omega)).1 (hw k (by omega)).2 (hw 5 (by decide)).1 (hw 5 (by decide)).2 rfl ?_)
            try simp only [ek]
            refine zz_b ok rfl trivial rfl (fun h72 => ?_) (fun h72 => ?_)
            · skip
              try simp only [ek] at h72 ⊢
              refine zz_g ok rfl trivial ?_
              refine zz_pm [2, 1, 0] rfl ?_
              exact ih (k + 1) (by omega) (by omega) _ _ (nI_1 k) (by simp [c_is, c_is1, zz_bi, h11, h24, h41, h48, h72])
            · skip
              try simp only [ek] at h72 ⊢
              refine zz_g ok rfl trivial ?_
              refine zz_pm [2, 1, 0] rfl ?_
              exact ih (k + 1) (by omega) (by omega) _ _ (nI_1 k) (by simp [c_is, c_is1, zz_bi, h11, h24, h41, h48, h72])
      · skip
        try simp only [ek] at h24 ⊢
        rw [ni_lit, ni_ltn (by omega) (by decide)] at h24
        have hk6 : k = 5 := by omega
        subst hk6
        refine zz_b ok rfl trivial rfl (fun h88 => ?_) (fun h88 => ?_)
        · skip
          try simp only [ek] at h88 ⊢
          simp only [zz_bi0, Bool.not_eq_false] at h88
          refine zz_i ok rfl trivial rfl rfl ?_
          exact zz_pq h (by simp [h88, zz_bi]) rfl
        · skip
          try simp only [ek] at h88 ⊢
          simp only [zz_bi0, Bool.not_eq_false] at h88
          refine zz_i ok rfl trivial rfl rfl ?_
          exact zz_pq h (by simp [h88, zz_bi]) rfl
    refine zz_g ok rfl trivial ?_
    refine zz_pm [2, 1, 0] rfl ?_
    exact lp22 6 0 (by omega) (by omega) _ _ rfl (by simp [c_is, zz_bi, h11])
  · skip
    try simp only [ek] at h11 ⊢
    have lp22 : ∀ (f k : Nat), 5 - k < f → k ≤ 5 → ∀ (x2 x1 : Int32), x2 = nI k → x1 = zz_bi (c_is M k) → zz_W G Z md_Le_isSafe post 22 [(2, .inl x2), (1, .inl x1), (0, .inr (.inr (5, 0, 0)))] [] M := by
      intro f
      induction f with
      | zero => intro k hf; exact absurd hf (Nat.not_lt_zero _)
      | succ f ih => ?_
      intro k hf hk x2 x1 e2 e1
      subst e2; subst e1
      refine zz_b ok rfl trivial rfl (fun h24 => ?_) (fun h24 => ?_)
      · skip
        try simp only [ek] at h24 ⊢
        rw [ni_lit, ni_ltn (by omega) (by decide)] at h24
        have hk5 : k < 5 := h24
        have ek := ni_e5 hk5
        refine zz_b ok rfl ⟨ni_5 hk5, trivial⟩ rfl (fun h41 => ?_) (fun h41 => ?_)
        · skip
          try simp only [ek] at h41 ⊢
          simp only [zz_bi0, Bool.not_eq_false] at h41
          try simp only [ek]
          refine zz_g ok rfl trivial ?_
          refine zz_pm [2, 1, 0] rfl ?_
          exact ih (k + 1) (by omega) (by omega) _ _ (nI_1 k) (by simp [c_is, c_is1, zz_bi, h11, h24, h41])
        · skip
          try simp only [ek] at h41 ⊢
          simp only [zz_bi0, Bool.not_eq_false] at h41
          try simp only [ek]
          refine zz_cV ok rfl trivial rfl lk_Le_226 ca_Lo_isOrdered rfl rfl rfl rfl rfl (sp_Lo_isOrdered (n := rn M 0 k) hG (hw k (by omega)).1 (hw k (by omega)).2 ?_)
          try simp only [ek]
          refine zz_b ok rfl trivial rfl (fun h48 => ?_) (fun h48 => ?_)
          · skip
            try simp only [ek] at h48 ⊢
            simp only [zz_bi0, Bool.not_eq_false] at h48
            refine zz_g ok rfl trivial ?_
            refine zz_pm [2, 1, 0] rfl ?_
            exact ih (k + 1) (by omega) (by omega) _ _ (nI_1 k) (by simp [c_is, c_is1, zz_bi, h11, h24, h41, h48])
          · skip
            try simp only [ek] at h48 ⊢
            simp only [zz_bi0, Bool.not_eq_false] at h48
            refine zz_cV ok rfl trivial rfl lk_Le_177 ca_Ro_sharedStart rfl rfl rfl rfl rfl (sp_Ro_sharedStart hG (hw k (by omega)).1 (hw k (by omega)).2 (hw 5 (by decide)).1 (hw 5 (by decide)).2 rfl ?_)
            try simp only [ek]
            refine zz_b ok rfl trivial rfl (fun h72 => ?_) (fun h72 => ?_)
            · skip
              try simp only [ek] at h72 ⊢
              refine zz_g ok rfl trivial ?_
              refine zz_pm [2, 1, 0] rfl ?_
              exact ih (k + 1) (by omega) (by omega) _ _ (nI_1 k) (by simp [c_is, c_is1, zz_bi, h11, h24, h41, h48, h72])
            · skip
              try simp only [ek] at h72 ⊢
              refine zz_g ok rfl trivial ?_
              refine zz_pm [2, 1, 0] rfl ?_
              exact ih (k + 1) (by omega) (by omega) _ _ (nI_1 k) (by simp [c_is, c_is1, zz_bi, h11, h24, h41, h48, h72])
      · skip
        try simp only [ek] at h24 ⊢
        rw [ni_lit, ni_ltn (by omega) (by decide)] at h24
        have hk6 : k = 5 := by omega
        subst hk6
        refine zz_b ok rfl trivial rfl (fun h88 => ?_) (fun h88 => ?_)
        · skip
          try simp only [ek] at h88 ⊢
          simp only [zz_bi0, Bool.not_eq_false] at h88
          refine zz_i ok rfl trivial rfl rfl ?_
          exact zz_pq h (by simp [h88, zz_bi]) rfl
        · skip
          try simp only [ek] at h88 ⊢
          simp only [zz_bi0, Bool.not_eq_false] at h88
          refine zz_i ok rfl trivial rfl rfl ?_
          exact zz_pq h (by simp [h88, zz_bi]) rfl
    refine zz_g ok rfl trivial ?_
    refine zz_pm [2, 1, 0] rfl ?_
    exact lp22 6 0 (by omega) (by omega) _ _ rfl (by simp [c_is, zz_bi, h11])
theorem i_vc : Claimed_1_1 ∧ Claimed_1_2 := sorry
