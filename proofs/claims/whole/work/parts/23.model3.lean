def m_e1 (s : Nat) (t e : Int32) (v : Nat) (X : zM × Int32) : zM × Int32 :=
  if m_at X.1 s v t = 2 ∧ q X.1 (36 + s) < q X.1 (36 + v) then (qs (qs X.1 (1729 + v) (m_at X.1 s v t)) (36 + s) (q X.1 (36 + v)), X.2)
  else if m_at X.1 s v t = 0 then (qs (qs (qs (qs X.1 (1729 + v) (m_at X.1 s v t)) (36 + v) (mx t (q X.1 (36 + v)))) (41 + v) (nI s)) (46 + v) e, X.2 + 1)
  else (qs X.1 (1729 + v) (m_at X.1 s v t), X.2)
def m_m0 (M : zM) (s : Nat) : zM := qs M (36 + s) (q M (36 + s) + 1)
def m_eX (M : zM) (s : Nat) (d : Int32) : zM × Int32 := zz_it (m_e1 s (q M (36 + s) + 1) (m_rd (m_m0 M s) s + d)) 5 (m_m0 M s, 0)
def m_aq (M : zM) (s : Nat) (d : Int32) : Int32 × zM :=
  if (m_eX M s d).2 < 3 then (-10 - (m_eX M s d).2, qs (qs (qs (m_eX M s d).1 1734 1) (61 + s) 0) (66 + s) (m_rd (m_m0 M s) s + d)) else (q M (36 + s) + 1, qs (qs (qs (m_eX M s d).1 1734 1) (61 + s) (q M (36 + s) + 1)) (66 + s) (m_rd (m_m0 M s) s + d))
def m_acquire (M : zM) (a d : Int32) : Int32 × zM := if nsv a ∨ d < 1 ∨ 100 < d then (-1001, M) else if m_ru M (zz_ix a) = false ∨ m_ha M (zz_ix a) = true then (-1002, M) else m_aq M (zz_ix a) d
def m_r1 (s : Nat) (t e : Int32) (v : Nat) (X : zM × Int32) : zM × Int32 :=
  if m_ar X.1 s v t = 0 then (qs (qs (qs (qs X.1 (1729 + v) (m_ar X.1 s v t)) (36 + v) t) (46 + v) (if q X.1 (41 + v) = nI s ∧ e < q X.1 (46 + v) then q X.1 (46 + v) else e)) (41 + v) (nI s), X.2 + 1)
  else (qs X.1 (1729 + v) (m_ar X.1 s v t), X.2)
def m_rX (M : zM) (s : Nat) (d : Int32) : zM × Int32 := zz_it (m_r1 s (q M (61 + s)) (m_rd M s + d)) 5 (M, 0)
def m_rn (M : zM) (s : Nat) (d : Int32) : Int32 × zM :=
  if (m_rX M s d).2 < 3 then (-10 - (m_rX M s d).2, qs (m_rX M s d).1 1734 1) else (mx (m_rd M s + d) (q (m_rX M s d).1 (66 + s)), qs (qs (m_rX M s d).1 1734 1) (66 + s) (mx (m_rd M s + d) (q (m_rX M s d).1 (66 + s))))
def m_renew (M : zM) (a d : Int32) : Int32 × zM := if nsv a ∨ d < 1 ∨ 100 < d then (-1001, M) else if m_ha M (zz_ix a) = false then (-1002, M) else m_rn M (zz_ix a) d
def m_u1 (s v : Nat) (X : zM × Int32) : zM × Int32 := if m_re X.1 s v = true ∧ q X.1 (41 + v) = nI s then (qs X.1 (41 + v) (-1000), X.2 + 1) else X
def m_gu (M : zM) (s : Nat) : zM × Int32 := zz_it (m_u1 s) 5 (qs M (61 + s) 0, 0)
def m_giveUp (M : zM) (a : Int32) : Int32 × zM := if nsv a then (-1001, M) else if m_ha M (zz_ix a) = false then (-1002, M) else ((m_gu M (zz_ix a)).2, (m_gu M (zz_ix a)).1)
def m_cl (M : zM) (s v : Nat) (t dn : Int32) : zM := qs (qs (qs (zz_cpy M (20, 0, 0) (20, 0, 0) (476 + 160 * s) (476 + 160 * v) (4 * mn M (51 + s))) (51 + v) (nI (mn M (51 + s)))) (36 + v) t) (56 + v) (mx dn (q M (56 + v)))
def m_rm (M : zM) (s : Nat) : zM := qs (zz_cpy M (20, 0, 0) (20, 0, 0) (476 + 160 * s + 4 * mn M 1436) (1276 + 4 * mn M 1436) (4 * (mn M (56 + s) - mn M 1436))) 1436 (nI (max (mn M 1436) (mn M (56 + s))))
def m_st (M : zM) (s : Nat) : Int32 := if 0 < mn M (51 + s) ∧ ¬ m_pt M s (mn M (51 + s) - 1) 3 < m_la M s then m_pt M s (mn M (51 + s) - 1) 3 + 1 else m_la M s
def m_w0 (M : zM) (s : Nat) (key val : Int32) : zM := qs (qs (qs (qs (qs M (476 + 4 * (40 * s + mn M (51 + s))) (q M (61 + s))) (476 + 4 * (40 * s + mn M (51 + s)) + 1) key) (476 + 4 * (40 * s + mn M (51 + s)) + 2) val) (476 + 4 * (40 * s + mn M (51 + s)) + 3) (m_st M s)) (51 + s) (nI (mn M (51 + s) + 1))
def m_w1 (s : Nat) (t : Int32) (v : Nat) (X : zM × Int32) : zM × Int32 := if ¬ v = s ∧ m_re X.1 s v = true ∧ ¬ t < q X.1 (36 + v) then (m_cl X.1 s v t (q X.1 (56 + s)), X.2 + 1) else X
def m_wX (M : zM) (s : Nat) (key val : Int32) : zM × Int32 := zz_it (m_w1 s (q M (61 + s))) 5 (m_w0 M s key val, 1)
def m_w2 (A : zM) (s : Nat) : zM := m_rm (qs A (56 + s) (q A (51 + s))) s
def m_w3 (B : zM) (s d : Nat) (i st : Int32) : zM := qs (qs (qs B (76 + 40 * s + d) i) (276 + 40 * s + d) st) (71 + s) (nI (d + 1))
def m_wr (M : zM) (s : Nat) (key val : Int32) : Int32 × zM :=
  if m_ha M s = false then (-1002, M) else if mn M (51 + s) = 40 then (-1003, M) else
  if (m_wX M s key val).2 < 3 then (-10 - (m_wX M s key val).2, (m_wX M s key val).1) else (nI (mn M (51 + s)), m_w3 (m_w2 (m_wX M s key val).1 s) s (mn M (71 + s)) (nI (mn M (51 + s))) (m_st M s))
def m_write (M : zM) (a k v : Int32) : Int32 × zM := if nsv a ∨ (k < 0 ∨ 7 < k) ∨ (v < 0 ∨ 999 < v) then (-1001, M) else m_wr M (zz_ix a) k v
def m_barrier (M : zM) (a : Int32) : Int32 × zM := if nsv a then (-1001, M) else m_wr M (zz_ix a) (-1000) (-1000)
def m_handOver (M : zM) (a b d : Int32) : Int32 × zM := if nsv a ∨ nsv b ∨ a = b ∨ d < 1 ∨ 100 < d then (-1001, M) else if m_ha M (zz_ix a) = false ∨ m_re M (zz_ix a) (zz_ix b) = false ∨ q M (61 + zz_ix a) < q M (36 + zz_ix b) then (-1002, M) else m_aq (m_gu (m_cl M (zz_ix a) (zz_ix b) (q M (61 + zz_ix a)) (q M (56 + zz_ix a))) (zz_ix a)).1 (zz_ix b) d
theorem m_e1_mw {s v : Nat} {t e : Int32} {X : zM × Int32} (hs : s < 5) (hv : v < 5) (h : mw X.1) : mw (m_e1 s t e v X).1 := by
  unfold m_e1
  split
  · exact mw_set (by unfold mwi; omega) (mw_set (by unfold mwi; omega) h)
  · split
    · exact mw_set (by unfold mwi; omega) (mw_set (by unfold mwi; omega) (mw_set (by unfold mwi; omega) (mw_set (by unfold mwi; omega) h)))
    · exact mw_set (by unfold mwi; omega) h
theorem m_r1_mw {s v : Nat} {t e : Int32} {X : zM × Int32} (hv : v < 5) (h : mw X.1) : mw (m_r1 s t e v X).1 := by
  unfold m_r1
  split
  · exact mw_set (by unfold mwi; omega) (mw_set (by unfold mwi; omega) (mw_set (by unfold mwi; omega) (mw_set (by unfold mwi; omega) h)))
  · exact mw_set (by unfold mwi; omega) h
theorem m_u1_mw {s v : Nat} {X : zM × Int32} (hv : v < 5) (h : mw X.1) : mw (m_u1 s v X).1 := by
  unfold m_u1
  split
  · exact mw_set (by unfold mwi; omega) h
  · exact h
theorem m_it2_mw {f : Nat → zM × Int32 → zM × Int32} {N : Nat} (hf : ∀ k X, k < N → mw X.1 → mw (f k X).1) : ∀ (k : Nat) (X : zM × Int32), k ≤ N → mw X.1 → mw (zz_it f k X).1
  | 0, _, _, h => h
  | k + 1, X, hk, h => hf k _ hk (m_it2_mw hf k X (by omega) h)
theorem mxn {a b : Int32} {x y : Nat} (ha : a = nI x) (hb : b = nI y) (hx : x < 100000) (hy : y < 100000) : mx a b = nI (max x y) := by
  unfold mx; rw [ha, hb, ni_max (by omega) (by omega)]
theorem m_cl_mw {M : zM} {s v dn : Nat} {t d : Int32} (hs : s < 5) (hv : v < 5) (hd : d = nI dn) (hdn : dn ≤ 40) (h : mw M) : mw (m_cl M s v t d) := by
  have h1 := mw_len h hs
  have h2 := mw_done h hv
  unfold m_cl
  rw [mxn hd h2.1 (by omega) (by omega)]
  refine mw_sz ?_ (mw_set ?_ (mw_sz ?_ (mw_cpy ?_ h)))
  · unfold mwb; rw [if_neg (by omega), if_neg (by omega)]; omega
  · unfold mwi; omega
  · unfold mwb; rw [if_neg (by omega), if_neg (by omega)]; omega
  · unfold mwi; omega
theorem m_rm_mw {M : zM} {s : Nat} (hs : s < 5) (h : mw M) : mw (m_rm M s) := by
  have h1 := mw_hist h
  have h2 := mw_done h hs
  unfold m_rm
  refine mw_sz ?_ (mw_cpy ?_ h)
  · show _ ≤ 40; omega
  · unfold mwi; omega
theorem m_aq_mw {M : zM} {s : Nat} {d : Int32} (hs : s < 5) (h : mw M) : mw (m_aq M s d).2 := by
  have h1 : mw (m_eX M s d).1 := by
    unfold m_eX m_m0
    exact m_it2_mw (N := 5) (fun k X hk h => m_e1_mw hs hk h) 5 _ (Nat.le_refl 5) (mw_set (by unfold mwi; omega) h)
  unfold m_aq; split
  · exact mw_set (by unfold mwi; omega) (mw_set (by unfold mwi; omega) (mw_set (by unfold mwi; omega) h1))
  · exact mw_set (by unfold mwi; omega) (mw_set (by unfold mwi; omega) (mw_set (by unfold mwi; omega) h1))
theorem m_gu_mw {M : zM} {s : Nat} (hs : s < 5) (h : mw M) : mw (m_gu M s).1 := by
  unfold m_gu
  exact m_it2_mw (N := 5) (fun k X hk h => m_u1_mw hk h) 5 _ (Nat.le_refl 5) (mw_set (by unfold mwi; omega) h)
theorem m_u1_c (s : Nat) : ∀ (k : Nat) (X : zM × Int32), (∃ n, n ≤ 10 ∧ X.2 = nI n) → ∃ n, n ≤ 10 + k ∧ (zz_it (m_u1 s) k X).2 = nI n
  | 0, X, h => h
  | k + 1, X, h => by
    obtain ⟨n, hn, e⟩ := m_u1_c s k X h
    rw [zz_it]; generalize zz_it (m_u1 s) k X = Y at e ⊢; unfold m_u1; split
    · exact ⟨n + 1, by omega, by rw [e, nI_1]⟩
    · exact ⟨n, by omega, e⟩
theorem m_gu_c (M : zM) (s : Nat) : ¬ (m_gu M s).2 < 0 := by
  obtain ⟨n, hn, e⟩ := m_u1_c s 5 (qs M (61 + s) 0, 0) ⟨0, by omega, rfl⟩
  unfold m_gu; rw [e]; exact nI_pos (by omega)
theorem sp_Mo_acquires {G : zG} {post : Option zV → zM → Prop} {M : zM} {s : Nat} {d a : Int32} (hm : mw M) (hG : zz_go G) (ea : a = nI s) (hs : s < 5) (h : post (some (.inl (m_aq M s d).1)) (m_aq M s d).2) : zz_T G md_Mo_acquires [.inr (.inr (6, 0, 0)), .inl a, .inl d] M post := by
  refine en_Mo_acquires hG rfl (fun Z ok => ?_)
  subst ea
  unfold m_aq at h
  refine zz_cV ok rfl (by and_intros <;> first | exact True.intro | with_reducible exact v0 | with_reducible exact v1436 | with_reducible exact v1437 | with_reducible exact v1438 | with_reducible exact v1647 | with_reducible exact v1728 | with_reducible exact v1734 | with_reducible exact vi1 (by omega) (by decide) | with_reducible exact vi2 (by omega) (by decide) | with_reducible exact vi3 (by omega) (by decide) | with_reducible exact vi1p (by omega) (by decide) | with_reducible exact vi2p (by omega) (by decide) | with_reducible exact vi4 (by omega) (by decide) | with_reducible exact vi4p (by omega) (by decide) | trivial | exact vi0 (by decide) (by decide)) rfl lk_Mo_36 ca_Mo_reading rfl rfl rfl rfl rfl (sp_Mo_reading hG rfl hs ?_)
  try simp +decide only [z0, z1436, z1437, z1438, z1647, z1728, z1734, mi1 (n := s) (by omega), mi1p (b := s) (by omega), mi4 (a := s) (by omega), mi4p (a := s) (by omega), mi1 (n := k) (by omega), mi1p (b := k) (by omega), mi4 (a := k) (by omega), mi4p (a := k) (by omega), mi2 (a := s) (b := k) (by omega) (by omega), mi2p (a := s) (b := k) (by omega) (by omega), mi2 (a := k) (b := s) (by omega) (by omega), mi2p (a := k) (b := s) (by omega) (by omega), qg]
  try simp (disch := omega) only [if_neg]
  have lp38 : ∀ (f k : Nat), 5 - k < f → k ≤ 5 → ∀ (x6 x5 x4 x3 : Int32) (M' : zM), x6 = nI k → x3 = q M (36 + s) + 1 → x4 = m_rd (m_m0 M s) s + d → (M', x5) = zz_it (m_e1 s x3 x4) k (m_m0 M s, 0) → mw M' → zz_W G Z md_Mo_acquires post 38 [(6, .inl x6), (5, .inl x5), (4, .inl x4), (3, .inl x3), (2, .inl d), (1, .inl (nI s)), (0, .inr (.inr (6, 0, 0)))] [] M' := by
    intro f
    induction f with
    | zero => intro k hf; exact absurd hf (Nat.not_lt_zero _)
    | succ f ih => ?_
    intro k hf hk x6 x5 x4 x3 M' e6 e3 e4 eX hm'
    subst e6
    refine zz_b ok rfl trivial rfl (fun h41 => ?_) (fun h41 => ?_)
    · skip
      try simp +decide only [z0, z1436, z1437, z1438, z1647, z1728, z1734, mi1 (n := s) (by omega), mi1p (b := s) (by omega), mi4 (a := s) (by omega), mi4p (a := s) (by omega), mi1 (n := k) (by omega), mi1p (b := k) (by omega), mi4 (a := k) (by omega), mi4p (a := k) (by omega), mi2 (a := s) (b := k) (by omega) (by omega), mi2p (a := s) (b := k) (by omega) (by omega), mi2 (a := k) (b := s) (by omega) (by omega), mi2p (a := k) (b := s) (by omega) (by omega), qg] at h41 ⊢
      try simp (disch := omega) only [if_neg] at h41 ⊢
      rw [ni_lit, ni_ltn (by omega) (by decide)] at h41
      have hk5 : k < 5 := h41
      refine zz_cV ok rfl trivial rfl lk_Mo_78 ca_Mo_answerTo rfl rfl rfl rfl rfl (sp_Mo_answerTo hm' hG rfl hs rfl hk5 ?_)
      try simp +decide only [z0, z1436, z1437, z1438, z1647, z1728, z1734, mi1 (n := s) (by omega), mi1p (b := s) (by omega), mi4 (a := s) (by omega), mi4p (a := s) (by omega), mi1 (n := k) (by omega), mi1p (b := k) (by omega), mi4 (a := k) (by omega), mi4p (a := k) (by omega), mi2 (a := s) (b := k) (by omega) (by omega), mi2p (a := s) (b := k) (by omega) (by omega), mi2 (a := k) (b := s) (by omega) (by omega), mi2p (a := k) (b := s) (by omega) (by omega), qg]
      try simp (disch := omega) only [if_neg]
      refine zz_b ok rfl (by and_intros <;> first | exact True.intro | with_reducible exact v0 | with_reducible exact v1436 | with_reducible exact v1437 | with_reducible exact v1438 | with_reducible exact v1647 | with_reducible exact v1728 | with_reducible exact v1734 | with_reducible exact vi1 (by omega) (by decide) | with_reducible exact vi2 (by omega) (by decide) | with_reducible exact vi3 (by omega) (by decide) | with_reducible exact vi1p (by omega) (by decide) | with_reducible exact vi2p (by omega) (by decide) | with_reducible exact vi4 (by omega) (by decide) | with_reducible exact vi4p (by omega) (by decide) | trivial | exact vi0 (by decide) (by decide)) rfl (fun h70 => ?_) (fun h70 => ?_)
      · skip
        try simp +decide only [z0, z1436, z1437, z1438, z1647, z1728, z1734, mi1 (n := s) (by omega), mi1p (b := s) (by omega), mi4 (a := s) (by omega), mi4p (a := s) (by omega), mi1 (n := k) (by omega), mi1p (b := k) (by omega), mi4 (a := k) (by omega), mi4p (a := k) (by omega), mi2 (a := s) (b := k) (by omega) (by omega), mi2p (a := s) (b := k) (by omega) (by omega), mi2 (a := k) (b := s) (by omega) (by omega), mi2p (a := k) (b := s) (by omega) (by omega), qg] at h70 ⊢
        try simp (disch := omega) only [if_neg] at h70 ⊢
        refine zz_b ok rfl (by and_intros <;> first | exact True.intro | with_reducible exact v0 | with_reducible exact v1436 | with_reducible exact v1437 | with_reducible exact v1438 | with_reducible exact v1647 | with_reducible exact v1728 | with_reducible exact v1734 | with_reducible exact vi1 (by omega) (by decide) | with_reducible exact vi2 (by omega) (by decide) | with_reducible exact vi3 (by omega) (by decide) | with_reducible exact vi1p (by omega) (by decide) | with_reducible exact vi2p (by omega) (by decide) | with_reducible exact vi4 (by omega) (by decide) | with_reducible exact vi4p (by omega) (by decide) | trivial | exact vi0 (by decide) (by decide)) rfl (fun h92 => ?_) (fun h92 => ?_)
        · skip
          try simp +decide only [z0, z1436, z1437, z1438, z1647, z1728, z1734, mi1 (n := s) (by omega), mi1p (b := s) (by omega), mi4 (a := s) (by omega), mi4p (a := s) (by omega), mi1 (n := k) (by omega), mi1p (b := k) (by omega), mi4 (a := k) (by omega), mi4p (a := k) (by omega), mi2 (a := s) (b := k) (by omega) (by omega), mi2p (a := s) (b := k) (by omega) (by omega), mi2 (a := k) (b := s) (by omega) (by omega), mi2p (a := k) (b := s) (by omega) (by omega), qg] at h92 ⊢
          try simp (disch := omega) only [if_neg] at h92 ⊢
          refine zz_b ok rfl (by and_intros <;> first | exact True.intro | with_reducible exact v0 | with_reducible exact v1436 | with_reducible exact v1437 | with_reducible exact v1438 | with_reducible exact v1647 | with_reducible exact v1728 | with_reducible exact v1734 | with_reducible exact vi1 (by omega) (by decide) | with_reducible exact vi2 (by omega) (by decide) | with_reducible exact vi3 (by omega) (by decide) | with_reducible exact vi1p (by omega) (by decide) | with_reducible exact vi2p (by omega) (by decide) | with_reducible exact vi4 (by omega) (by decide) | with_reducible exact vi4p (by omega) (by decide) | trivial | exact vi0 (by decide) (by decide)) rfl (fun h116 => ?_) (fun h116 => ?_)
          · skip
            exact absurd (h116.symm.trans h70) (by decide)
          · skip
            try simp +decide only [z0, z1436, z1437, z1438, z1647, z1728, z1734, mi1 (n := s) (by omega), mi1p (b := s) (by omega), mi4 (a := s) (by omega), mi4p (a := s) (by omega), mi1 (n := k) (by omega), mi1p (b := k) (by omega), mi4 (a := k) (by omega), mi4p (a := k) (by omega), mi2 (a := s) (b := k) (by omega) (by omega), mi2p (a := s) (b := k) (by omega) (by omega), mi2 (a := k) (b := s) (by omega) (by omega), mi2p (a := k) (b := s) (by omega) (by omega), qg] at h116 ⊢
            try simp (disch := omega) only [if_neg] at h116 ⊢
            refine zz_g ok rfl trivial ?_
            refine zz_pm [6, 5, 4, 3, 2, 1, 0] rfl ?_
            try simp +decide only [z0, z1436, z1437, z1438, z1647, z1728, z1734, mi1 (n := s) (by omega), mi1p (b := s) (by omega), mi4 (a := s) (by omega), mi4p (a := s) (by omega), mi1 (n := k) (by omega), mi1p (b := k) (by omega), mi4 (a := k) (by omega), mi4p (a := k) (by omega), mi2 (a := s) (b := k) (by omega) (by omega), mi2p (a := s) (b := k) (by omega) (by omega), mi2 (a := k) (b := s) (by omega) (by omega), mi2p (a := k) (b := s) (by omega) (by omega), qg]
            try simp (disch := omega) only [if_neg]
            exact ih (k + 1) (by omega) (by omega) _ _ _ _ _ (nI_1 k) e3 e4 (by rw [zz_it, ← eX, m_e1]; rw [if_pos ⟨h70, h92⟩]) (by exact mw_set (by unfold mwi; omega) (mw_set (by unfold mwi; omega) hm'))
        · skip
          try simp +decide only [z0, z1436, z1437, z1438, z1647, z1728, z1734, mi1 (n := s) (by omega), mi1p (b := s) (by omega), mi4 (a := s) (by omega), mi4p (a := s) (by omega), mi1 (n := k) (by omega), mi1p (b := k) (by omega), mi4 (a := k) (by omega), mi4p (a := k) (by omega), mi2 (a := s) (b := k) (by omega) (by omega), mi2p (a := s) (b := k) (by omega) (by omega), mi2 (a := k) (b := s) (by omega) (by omega), mi2p (a := k) (b := s) (by omega) (by omega), qg] at h92 ⊢
          try simp (disch := omega) only [if_neg] at h92 ⊢
          refine zz_b ok rfl trivial rfl (fun h116 => ?_) (fun h116 => ?_)
          · skip
            exact absurd (h116.symm.trans h70) (by decide)
          · skip
            try simp +decide only [z0, z1436, z1437, z1438, z1647, z1728, z1734, mi1 (n := s) (by omega), mi1p (b := s) (by omega), mi4 (a := s) (by omega), mi4p (a := s) (by omega), mi1 (n := k) (by omega), mi1p (b := k) (by omega), mi4 (a := k) (by omega), mi4p (a := k) (by omega), mi2 (a := s) (b := k) (by omega) (by omega), mi2p (a := s) (b := k) (by omega) (by omega), mi2 (a := k) (b := s) (by omega) (by omega), mi2p (a := k) (b := s) (by omega) (by omega), qg] at h116 ⊢
            try simp (disch := omega) only [if_neg] at h116 ⊢
            refine zz_g ok rfl trivial ?_
            refine zz_pm [6, 5, 4, 3, 2, 1, 0] rfl ?_
            try simp +decide only [z0, z1436, z1437, z1438, z1647, z1728, z1734, mi1 (n := s) (by omega), mi1p (b := s) (by omega), mi4 (a := s) (by omega), mi4p (a := s) (by omega), mi1 (n := k) (by omega), mi1p (b := k) (by omega), mi4 (a := k) (by omega), mi4p (a := k) (by omega), mi2 (a := s) (b := k) (by omega) (by omega), mi2p (a := s) (b := k) (by omega) (by omega), mi2 (a := k) (b := s) (by omega) (by omega), mi2p (a := k) (b := s) (by omega) (by omega), qg]
            try simp (disch := omega) only [if_neg]
            exact ih (k + 1) (by omega) (by omega) _ _ _ _ _ (nI_1 k) e3 e4 (by rw [zz_it, ← eX, m_e1]; rw [if_neg (fun z => h92 z.2), if_neg h116]) (by exact mw_set (by unfold mwi; omega) hm')
      · skip
        try simp +decide only [z0, z1436, z1437, z1438, z1647, z1728, z1734, mi1 (n := s) (by omega), mi1p (b := s) (by omega), mi4 (a := s) (by omega), mi4p (a := s) (by omega), mi1 (n := k) (by omega), mi1p (b := k) (by omega), mi4 (a := k) (by omega), mi4p (a := k) (by omega), mi2 (a := s) (b := k) (by omega) (by omega), mi2p (a := s) (b := k) (by omega) (by omega), mi2 (a := k) (b := s) (by omega) (by omega), mi2p (a := k) (b := s) (by omega) (by omega), qg] at h70 ⊢
        try simp (disch := omega) only [if_neg] at h70 ⊢
        refine zz_b ok rfl trivial rfl (fun h116 => ?_) (fun h116 => ?_)
        · skip
          try simp +decide only [z0, z1436, z1437, z1438, z1647, z1728, z1734, mi1 (n := s) (by omega), mi1p (b := s) (by omega), mi4 (a := s) (by omega), mi4p (a := s) (by omega), mi1 (n := k) (by omega), mi1p (b := k) (by omega), mi4 (a := k) (by omega), mi4p (a := k) (by omega), mi2 (a := s) (b := k) (by omega) (by omega), mi2p (a := s) (b := k) (by omega) (by omega), mi2 (a := k) (b := s) (by omega) (by omega), mi2p (a := k) (b := s) (by omega) (by omega), qg] at h116 ⊢
          try simp (disch := omega) only [if_neg] at h116 ⊢
          skip
          refine zz_b ok rfl (by and_intros <;> first | exact True.intro | with_reducible exact v0 | with_reducible exact v1436 | with_reducible exact v1437 | with_reducible exact v1438 | with_reducible exact v1647 | with_reducible exact v1728 | with_reducible exact v1734 | with_reducible exact vi1 (by omega) (by decide) | with_reducible exact vi2 (by omega) (by decide) | with_reducible exact vi3 (by omega) (by decide) | with_reducible exact vi1p (by omega) (by decide) | with_reducible exact vi2p (by omega) (by decide) | with_reducible exact vi4 (by omega) (by decide) | with_reducible exact vi4p (by omega) (by decide) | trivial | exact vi0 (by decide) (by decide)) rfl (fun h139 => ?_) (fun h139 => ?_)
          · skip
            try simp +decide only [z0, z1436, z1437, z1438, z1647, z1728, z1734, mi1 (n := s) (by omega), mi1p (b := s) (by omega), mi4 (a := s) (by omega), mi4p (a := s) (by omega), mi1 (n := k) (by omega), mi1p (b := k) (by omega), mi4 (a := k) (by omega), mi4p (a := k) (by omega), mi2 (a := s) (b := k) (by omega) (by omega), mi2p (a := s) (b := k) (by omega) (by omega), mi2 (a := k) (b := s) (by omega) (by omega), mi2p (a := k) (b := s) (by omega) (by omega), qg] at h139 ⊢
            try simp (disch := omega) only [if_neg] at h139 ⊢
            refine zz_g ok rfl (by and_intros <;> first | exact True.intro | with_reducible exact v0 | with_reducible exact v1436 | with_reducible exact v1437 | with_reducible exact v1438 | with_reducible exact v1647 | with_reducible exact v1728 | with_reducible exact v1734 | with_reducible exact vi1 (by omega) (by decide) | with_reducible exact vi2 (by omega) (by decide) | with_reducible exact vi3 (by omega) (by decide) | with_reducible exact vi1p (by omega) (by decide) | with_reducible exact vi2p (by omega) (by decide) | with_reducible exact vi4 (by omega) (by decide) | with_reducible exact vi4p (by omega) (by decide) | trivial | exact vi0 (by decide) (by decide)) ?_
            refine zz_pm [6, 5, 4, 3, 2, 1, 0] rfl ?_
            try simp +decide only [z0, z1436, z1437, z1438, z1647, z1728, z1734, mi1 (n := s) (by omega), mi1p (b := s) (by omega), mi4 (a := s) (by omega), mi4p (a := s) (by omega), mi1 (n := k) (by omega), mi1p (b := k) (by omega), mi4 (a := k) (by omega), mi4p (a := k) (by omega), mi2 (a := s) (b := k) (by omega) (by omega), mi2p (a := s) (b := k) (by omega) (by omega), mi2 (a := k) (b := s) (by omega) (by omega), mi2p (a := k) (b := s) (by omega) (by omega), qg]
            try simp (disch := omega) only [if_neg]
            exact ih (k + 1) (by omega) (by omega) _ _ _ _ _ (nI_1 k) e3 e4 (by rw [zz_it, ← eX, m_e1]; rw [if_neg (fun z => h70 z.1), if_pos h116, mx, if_pos h139]) (by exact mw_set (by unfold mwi; omega) (mw_set (by unfold mwi; omega) (mw_set (by unfold mwi; omega) (mw_set (by unfold mwi; omega) hm'))))
          · skip
            try simp +decide only [z0, z1436, z1437, z1438, z1647, z1728, z1734, mi1 (n := s) (by omega), mi1p (b := s) (by omega), mi4 (a := s) (by omega), mi4p (a := s) (by omega), mi1 (n := k) (by omega), mi1p (b := k) (by omega), mi4 (a := k) (by omega), mi4p (a := k) (by omega), mi2 (a := s) (b := k) (by omega) (by omega), mi2p (a := s) (b := k) (by omega) (by omega), mi2 (a := k) (b := s) (by omega) (by omega), mi2p (a := k) (b := s) (by omega) (by omega), qg] at h139 ⊢
            try simp (disch := omega) only [if_neg] at h139 ⊢
            refine zz_g ok rfl (by and_intros <;> first | exact True.intro | with_reducible exact v0 | with_reducible exact v1436 | with_reducible exact v1437 | with_reducible exact v1438 | with_reducible exact v1647 | with_reducible exact v1728 | with_reducible exact v1734 | with_reducible exact vi1 (by omega) (by decide) | with_reducible exact vi2 (by omega) (by decide) | with_reducible exact vi3 (by omega) (by decide) | with_reducible exact vi1p (by omega) (by decide) | with_reducible exact vi2p (by omega) (by decide) | with_reducible exact vi4 (by omega) (by decide) | with_reducible exact vi4p (by omega) (by decide) | trivial | exact vi0 (by decide) (by decide)) ?_
            refine zz_pm [6, 5, 4, 3, 2, 1, 0] rfl ?_
            try simp +decide only [z0, z1436, z1437, z1438, z1647, z1728, z1734, mi1 (n := s) (by omega), mi1p (b := s) (by omega), mi4 (a := s) (by omega), mi4p (a := s) (by omega), mi1 (n := k) (by omega), mi1p (b := k) (by omega), mi4 (a := k) (by omega), mi4p (a := k) (by omega), mi2 (a := s) (b := k) (by omega) (by omega), mi2p (a := s) (b := k) (by omega) (by omega), mi2 (a := k) (b := s) (by omega) (by omega), mi2p (a := k) (b := s) (by omega) (by omega), qg]
            try simp (disch := omega) only [if_neg]
            exact ih (k + 1) (by omega) (by omega) _ _ _ _ _ (nI_1 k) e3 e4 (by rw [zz_it, ← eX, m_e1]; rw [if_neg (fun z => h70 z.1), if_pos h116, mx, if_neg h139]) (by exact mw_set (by unfold mwi; omega) (mw_set (by unfold mwi; omega) (mw_set (by unfold mwi; omega) (mw_set (by unfold mwi; omega) hm'))))
        · skip
          try simp +decide only [z0, z1436, z1437, z1438, z1647, z1728, z1734, mi1 (n := s) (by omega), mi1p (b := s) (by omega), mi4 (a := s) (by omega), mi4p (a := s) (by omega), mi1 (n := k) (by omega), mi1p (b := k) (by omega), mi4 (a := k) (by omega), mi4p (a := k) (by omega), mi2 (a := s) (b := k) (by omega) (by omega), mi2p (a := s) (b := k) (by omega) (by omega), mi2 (a := k) (b := s) (by omega) (by omega), mi2p (a := k) (b := s) (by omega) (by omega), qg] at h116 ⊢
          try simp (disch := omega) only [if_neg] at h116 ⊢
          refine zz_g ok rfl trivial ?_
          refine zz_pm [6, 5, 4, 3, 2, 1, 0] rfl ?_
          try simp +decide only [z0, z1436, z1437, z1438, z1647, z1728, z1734, mi1 (n := s) (by omega), mi1p (b := s) (by omega), mi4 (a := s) (by omega), mi4p (a := s) (by omega), mi1 (n := k) (by omega), mi1p (b := k) (by omega), mi4 (a := k) (by omega), mi4p (a := k) (by omega), mi2 (a := s) (b := k) (by omega) (by omega), mi2p (a := s) (b := k) (by omega) (by omega), mi2 (a := k) (b := s) (by omega) (by omega), mi2p (a := k) (b := s) (by omega) (by omega), qg]
          try simp (disch := omega) only [if_neg]
          exact ih (k + 1) (by omega) (by omega) _ _ _ _ _ (nI_1 k) e3 e4 (by rw [zz_it, ← eX, m_e1]; rw [if_neg (fun z => h70 z.1), if_neg h116]) (by exact mw_set (by unfold mwi; omega) hm')
    · skip
      try simp +decide only [z0, z1436, z1437, z1438, z1647, z1728, z1734, mi1 (n := s) (by omega), mi1p (b := s) (by omega), mi4 (a := s) (by omega), mi4p (a := s) (by omega), mi1 (n := k) (by omega), mi1p (b := k) (by omega), mi4 (a := k) (by omega), mi4p (a := k) (by omega), mi2 (a := s) (b := k) (by omega) (by omega), mi2p (a := s) (b := k) (by omega) (by omega), mi2 (a := k) (b := s) (by omega) (by omega), mi2p (a := k) (b := s) (by omega) (by omega), qg] at h41 ⊢
      try simp (disch := omega) only [if_neg] at h41 ⊢
      rw [ni_lit, ni_ltn (by omega) (by decide)] at h41
      have hk6 : k = 5 := by omega
      subst hk6
      subst e3; subst e4
      have eX1 : m_eX M s d = (M', x5) := eX.symm
      rw [eX1] at h
      dsimp only at h
      refine zz_b ok rfl (by and_intros <;> first | exact True.intro | with_reducible exact v0 | with_reducible exact v1436 | with_reducible exact v1437 | with_reducible exact v1438 | with_reducible exact v1647 | with_reducible exact v1728 | with_reducible exact v1734 | with_reducible exact vi1 (by omega) (by decide) | with_reducible exact vi2 (by omega) (by decide) | with_reducible exact vi3 (by omega) (by decide) | with_reducible exact vi1p (by omega) (by decide) | with_reducible exact vi2p (by omega) (by decide) | with_reducible exact vi4 (by omega) (by decide) | with_reducible exact vi4p (by omega) (by decide) | trivial | exact vi0 (by decide) (by decide)) rfl (fun h201 => ?_) (fun h201 => ?_)
      · skip
        try simp +decide only [z0, z1436, z1437, z1438, z1647, z1728, z1734, mi1 (n := s) (by omega), mi1p (b := s) (by omega), mi4 (a := s) (by omega), mi4p (a := s) (by omega), mi1 (n := k) (by omega), mi1p (b := k) (by omega), mi4 (a := k) (by omega), mi4p (a := k) (by omega), mi2 (a := s) (b := k) (by omega) (by omega), mi2p (a := s) (b := k) (by omega) (by omega), mi2 (a := k) (b := s) (by omega) (by omega), mi2p (a := k) (b := s) (by omega) (by omega), qg] at h201 ⊢
        try simp (disch := omega) only [if_neg] at h201 ⊢
        refine zz_b ok rfl trivial rfl (fun h221 => ?_) (fun h221 => ?_)
        · skip
          try simp +decide only [z0, z1436, z1437, z1438, z1647, z1728, z1734, mi1 (n := s) (by omega), mi1p (b := s) (by omega), mi4 (a := s) (by omega), mi4p (a := s) (by omega), mi1 (n := k) (by omega), mi1p (b := k) (by omega), mi4 (a := k) (by omega), mi4p (a := k) (by omega), mi2 (a := s) (b := k) (by omega) (by omega), mi2p (a := s) (b := k) (by omega) (by omega), mi2 (a := k) (b := s) (by omega) (by omega), mi2p (a := k) (b := s) (by omega) (by omega), qg] at h221 ⊢
          try simp (disch := omega) only [if_neg] at h221 ⊢
          skip
          refine zz_b ok rfl (by and_intros <;> first | exact True.intro | with_reducible exact v0 | with_reducible exact v1436 | with_reducible exact v1437 | with_reducible exact v1438 | with_reducible exact v1647 | with_reducible exact v1728 | with_reducible exact v1734 | with_reducible exact vi1 (by omega) (by decide) | with_reducible exact vi2 (by omega) (by decide) | with_reducible exact vi3 (by omega) (by decide) | with_reducible exact vi1p (by omega) (by decide) | with_reducible exact vi2p (by omega) (by decide) | with_reducible exact vi4 (by omega) (by decide) | with_reducible exact vi4p (by omega) (by decide) | trivial | exact vi0 (by decide) (by decide)) rfl (fun h243 => ?_) (fun h243 => ?_)
          · skip
            try simp +decide only [z0, z1436, z1437, z1438, z1647, z1728, z1734, mi1 (n := s) (by omega), mi1p (b := s) (by omega), mi4 (a := s) (by omega), mi4p (a := s) (by omega), mi1 (n := k) (by omega), mi1p (b := k) (by omega), mi4 (a := k) (by omega), mi4p (a := k) (by omega), mi2 (a := s) (b := k) (by omega) (by omega), mi2p (a := s) (b := k) (by omega) (by omega), mi2 (a := k) (b := s) (by omega) (by omega), mi2p (a := k) (b := s) (by omega) (by omega), qg] at h243 ⊢
            try simp (disch := omega) only [if_neg] at h243 ⊢
            skip
            refine zz_i ok rfl trivial rfl rfl ?_
            try simp +decide only [z0, z1436, z1437, z1438, z1647, z1728, z1734, mi1 (n := s) (by omega), mi1p (b := s) (by omega), mi4 (a := s) (by omega), mi4p (a := s) (by omega), mi1 (n := k) (by omega), mi1p (b := k) (by omega), mi4 (a := k) (by omega), mi4p (a := k) (by omega), mi2 (a := s) (b := k) (by omega) (by omega), mi2p (a := s) (b := k) (by omega) (by omega), mi2 (a := k) (b := s) (by omega) (by omega), mi2p (a := k) (b := s) (by omega) (by omega), qg]
            try simp (disch := omega) only [if_neg]
            rw [if_pos h201] at h
            simp +decide only [z0, z1436, z1437, z1438, z1647, z1728, z1734, mi1 (n := s) (by omega), mi1p (b := s) (by omega), mi4 (a := s) (by omega), mi4p (a := s) (by omega)]
            exact h
          · skip
            exact absurd rfl h243
        · skip
          exact absurd rfl h221
      · skip
        try simp +decide only [z0, z1436, z1437, z1438, z1647, z1728, z1734, mi1 (n := s) (by omega), mi1p (b := s) (by omega), mi4 (a := s) (by omega), mi4p (a := s) (by omega), mi1 (n := k) (by omega), mi1p (b := k) (by omega), mi4 (a := k) (by omega), mi4p (a := k) (by omega), mi2 (a := s) (b := k) (by omega) (by omega), mi2p (a := s) (b := k) (by omega) (by omega), mi2 (a := k) (b := s) (by omega) (by omega), mi2p (a := k) (b := s) (by omega) (by omega), qg] at h201 ⊢
        try simp (disch := omega) only [if_neg] at h201 ⊢
        refine zz_b ok rfl trivial rfl (fun h221 => ?_) (fun h221 => ?_)
        · skip
          exact absurd h221 (by decide)
        · skip
          try simp +decide only [z0, z1436, z1437, z1438, z1647, z1728, z1734, mi1 (n := s) (by omega), mi1p (b := s) (by omega), mi4 (a := s) (by omega), mi4p (a := s) (by omega), mi1 (n := k) (by omega), mi1p (b := k) (by omega), mi4 (a := k) (by omega), mi4p (a := k) (by omega), mi2 (a := s) (b := k) (by omega) (by omega), mi2p (a := s) (b := k) (by omega) (by omega), mi2 (a := k) (b := s) (by omega) (by omega), mi2p (a := k) (b := s) (by omega) (by omega), qg] at h221 ⊢
          try simp (disch := omega) only [if_neg] at h221 ⊢
          skip
          refine zz_b ok rfl (by and_intros <;> first | exact True.intro | with_reducible exact v0 | with_reducible exact v1436 | with_reducible exact v1437 | with_reducible exact v1438 | with_reducible exact v1647 | with_reducible exact v1728 | with_reducible exact v1734 | with_reducible exact vi1 (by omega) (by decide) | with_reducible exact vi2 (by omega) (by decide) | with_reducible exact vi3 (by omega) (by decide) | with_reducible exact vi1p (by omega) (by decide) | with_reducible exact vi2p (by omega) (by decide) | with_reducible exact vi4 (by omega) (by decide) | with_reducible exact vi4p (by omega) (by decide) | trivial | exact vi0 (by decide) (by decide)) rfl (fun h243 => ?_) (fun h243 => ?_)
          · skip
            exact absurd h243 (by decide)
          · skip
            try simp +decide only [z0, z1436, z1437, z1438, z1647, z1728, z1734, mi1 (n := s) (by omega), mi1p (b := s) (by omega), mi4 (a := s) (by omega), mi4p (a := s) (by omega), mi1 (n := k) (by omega), mi1p (b := k) (by omega), mi4 (a := k) (by omega), mi4p (a := k) (by omega), mi2 (a := s) (b := k) (by omega) (by omega), mi2p (a := s) (b := k) (by omega) (by omega), mi2 (a := k) (b := s) (by omega) (by omega), mi2p (a := k) (b := s) (by omega) (by omega), qg] at h243 ⊢
            try simp (disch := omega) only [if_neg] at h243 ⊢
            skip
            refine zz_i ok rfl trivial rfl rfl ?_
            try simp +decide only [z0, z1436, z1437, z1438, z1647, z1728, z1734, mi1 (n := s) (by omega), mi1p (b := s) (by omega), mi4 (a := s) (by omega), mi4p (a := s) (by omega), mi1 (n := k) (by omega), mi1p (b := k) (by omega), mi4 (a := k) (by omega), mi4p (a := k) (by omega), mi2 (a := s) (b := k) (by omega) (by omega), mi2p (a := s) (b := k) (by omega) (by omega), mi2 (a := k) (b := s) (by omega) (by omega), mi2p (a := k) (b := s) (by omega) (by omega), qg]
            try simp (disch := omega) only [if_neg]
            rw [if_neg h201] at h
            simp +decide only [z0, z1436, z1437, z1438, z1647, z1728, z1734, mi1 (n := s) (by omega), mi1p (b := s) (by omega), mi4 (a := s) (by omega), mi4p (a := s) (by omega)]
            exact h
  refine zz_g ok rfl trivial ?_
  refine zz_pm [6, 5, 4, 3, 2, 1, 0] rfl ?_
  simp +decide only [z0, z1436, z1437, z1438, z1647, z1728, z1734, mi1 (n := s) (by omega), mi1p (b := s) (by omega), mi4 (a := s) (by omega), mi4p (a := s) (by omega)]
  exact lp38 6 0 (by omega) (by omega) _ _ _ _ _ rfl (by rw [qg, if_pos rfl]) rfl rfl (mw_set (by unfold mwi; omega) hm)
theorem sp_Mo_acquire {G : zG} {post : Option zV → zM → Prop} {M : zM} {a d : Int32} (hm : mw M) (hG : zz_go G) (h : post (some (.inl (m_acquire M a d).1)) (m_acquire M a d).2) : zz_T G md_Mo_acquire [.inr (.inr (6, 0, 0)), .inl a, .inl d] M post := by
  refine en_Mo_acquire hG rfl (fun Z ok => ?_)
  refine zz_cS ok rfl trivial rfl lk_Mo_54 ca_Mo_isServer rfl rfl rfl (sp_Mo_isServer hG ?_)
  try simp +decide only [mi0, mi1 (n := s) (by omega)]
  refine zz_b ok rfl trivial rfl (fun h4 => ?_) (fun h4 => ?_)
  · skip
    try simp +decide only [mi0, mi1 (n := s) (by omega)] at h4 ⊢
    have h4 := wi_of h4
    refine zz_i ok rfl trivial rfl rfl ?_
    exact zz_pq h (by simp [m_acquire, nsv, h4]) (by simp [m_acquire, nsv, h4])
  · skip
    try simp +decide only [mi0, mi1 (n := s) (by omega)] at h4 ⊢
    have h4 := wi_nof h4
    obtain ⟨s, hs, rfl⟩ := ni_w (N := 4) (by decide) h4.1 h4.2
    refine zz_cS ok rfl trivial rfl lk_Mo_32 ca_Mo_in rfl rfl rfl (sp_Mo_in hG ?_)
    try simp +decide only [mi0, mi1 (n := s) (by omega)]
    refine zz_b ok rfl trivial rfl (fun h14 => ?_) (fun h14 => ?_)
    · skip
      try simp +decide only [mi0, mi1 (n := s) (by omega)] at h14 ⊢
      have h14 := wi_of h14
      refine zz_i ok rfl trivial rfl rfl ?_
      exact zz_pq h (by simp [m_acquire, nsv, zz_ixn (show s < 2147483648 by omega), mi1 (n := s) (by omega), h4, h14]) (by simp [m_acquire, nsv, zz_ixn (show s < 2147483648 by omega), mi1 (n := s) (by omega), h4, h14])
    · skip
      try simp +decide only [mi0, mi1 (n := s) (by omega)] at h14 ⊢
      have h14 := wi_nof h14
      refine zz_cV ok rfl trivial rfl lk_Mo_40 ca_Mo_runs rfl rfl rfl rfl rfl (sp_Mo_runs hG rfl hs ?_)
      try simp +decide only [mi0, mi1 (n := s) (by omega)]
      refine zz_b ok rfl trivial rfl (fun h26 => ?_) (fun h26 => ?_)
      · skip
        try simp +decide only [mi0, mi1 (n := s) (by omega)] at h26 ⊢
        simp only [zz_bi0, Bool.not_eq_false] at h26
        refine zz_i ok rfl trivial rfl rfl ?_
        exact zz_pq h (by simp [m_acquire, nsv, zz_ixn (show s < 2147483648 by omega), mi1 (n := s) (by omega), h4, h14, h26]) (by simp [m_acquire, nsv, zz_ixn (show s < 2147483648 by omega), mi1 (n := s) (by omega), h4, h14, h26])
      · skip
        try simp +decide only [mi0, mi1 (n := s) (by omega)] at h26 ⊢
        simp only [zz_bi0, Bool.not_eq_false] at h26
        refine zz_cV ok rfl trivial rfl lk_Mo_81 ca_Mo_hasIt rfl rfl rfl rfl rfl (sp_Mo_hasIt hG rfl hs ?_)
        try simp +decide only [mi0, mi1 (n := s) (by omega)]
        refine zz_b ok rfl trivial rfl (fun h34 => ?_) (fun h34 => ?_)
        · skip
          try simp +decide only [mi0, mi1 (n := s) (by omega)] at h34 ⊢
          simp only [zz_bi0, Bool.not_eq_false] at h34
          refine zz_cV ok rfl trivial rfl lk_Mo_84 ca_Mo_acquires rfl rfl rfl rfl rfl (sp_Mo_acquires hm hG rfl hs ?_)
          try simp +decide only [mi0, mi1 (n := s) (by omega)]
          refine zz_i ok rfl trivial rfl rfl ?_
          exact zz_pq h (by simp [m_acquire, nsv, zz_ixn (show s < 2147483648 by omega), mi1 (n := s) (by omega), h4, h14, h26, h34]) (by simp [m_acquire, nsv, zz_ixn (show s < 2147483648 by omega), mi1 (n := s) (by omega), h4, h14, h26, h34])
        · skip
          try simp +decide only [mi0, mi1 (n := s) (by omega)] at h34 ⊢
          simp only [zz_bi0, Bool.not_eq_false] at h34
          refine zz_i ok rfl trivial rfl rfl ?_
          exact zz_pq h (by simp [m_acquire, nsv, zz_ixn (show s < 2147483648 by omega), mi1 (n := s) (by omega), h4, h14, h26, h34]) (by simp [m_acquire, nsv, zz_ixn (show s < 2147483648 by omega), mi1 (n := s) (by omega), h4, h14, h26, h34])
theorem sp_Mo_renew {G : zG} {post : Option zV → zM → Prop} {M : zM} {a d : Int32} (hm : mw M) (hG : zz_go G) (h : post (some (.inl (m_renew M a d).1)) (m_renew M a d).2) : zz_T G md_Mo_renew [.inr (.inr (6, 0, 0)), .inl a, .inl d] M post := by
  refine en_Mo_renew hG rfl (fun Z ok => ?_)
  refine zz_cS ok rfl trivial rfl lk_Mo_54 ca_Mo_isServer rfl rfl rfl (sp_Mo_isServer hG ?_)
  try simp +decide only [z0, z1436, z1437, z1438, z1647, z1728, z1734, mi1 (n := s) (by omega), mi1p (b := s) (by omega), mi4 (a := s) (by omega), mi4p (a := s) (by omega), mi1 (n := k) (by omega), mi1p (b := k) (by omega), mi4 (a := k) (by omega), mi4p (a := k) (by omega), mi2 (a := s) (b := k) (by omega) (by omega), mi2p (a := s) (b := k) (by omega) (by omega), mi2 (a := k) (b := s) (by omega) (by omega), mi2p (a := k) (b := s) (by omega) (by omega), qg]
  try simp (disch := omega) only [if_neg]
  refine zz_b ok rfl trivial rfl (fun h4 => ?_) (fun h4 => ?_)
  · skip
    try simp +decide only [z0, z1436, z1437, z1438, z1647, z1728, z1734, mi1 (n := s) (by omega), mi1p (b := s) (by omega), mi4 (a := s) (by omega), mi4p (a := s) (by omega), mi1 (n := k) (by omega), mi1p (b := k) (by omega), mi4 (a := k) (by omega), mi4p (a := k) (by omega), mi2 (a := s) (b := k) (by omega) (by omega), mi2p (a := s) (b := k) (by omega) (by omega), mi2 (a := k) (b := s) (by omega) (by omega), mi2p (a := k) (b := s) (by omega) (by omega), qg] at h4 ⊢
    try simp (disch := omega) only [if_neg] at h4 ⊢
    have h4 := wi_of h4
    refine zz_i ok rfl trivial rfl rfl ?_
    try simp +decide only [z0, z1436, z1437, z1438, z1647, z1728, z1734, mi1 (n := s) (by omega), mi1p (b := s) (by omega), mi4 (a := s) (by omega), mi4p (a := s) (by omega), mi1 (n := k) (by omega), mi1p (b := k) (by omega), mi4 (a := k) (by omega), mi4p (a := k) (by omega), mi2 (a := s) (b := k) (by omega) (by omega), mi2p (a := s) (b := k) (by omega) (by omega), mi2 (a := k) (b := s) (by omega) (by omega), mi2p (a := k) (b := s) (by omega) (by omega), qg]
    try simp (disch := omega) only [if_neg]
    exact zz_pq h (by simp [m_renew, nsv, h4]) (by simp [m_renew, nsv, h4])
  · skip
    try simp +decide only [z0, z1436, z1437, z1438, z1647, z1728, z1734, mi1 (n := s) (by omega), mi1p (b := s) (by omega), mi4 (a := s) (by omega), mi4p (a := s) (by omega), mi1 (n := k) (by omega), mi1p (b := k) (by omega), mi4 (a := k) (by omega), mi4p (a := k) (by omega), mi2 (a := s) (b := k) (by omega) (by omega), mi2p (a := s) (b := k) (by omega) (by omega), mi2 (a := k) (b := s) (by omega) (by omega), mi2p (a := k) (b := s) (by omega) (by omega), qg] at h4 ⊢
    try simp (disch := omega) only [if_neg] at h4 ⊢
    have h4 := wi_nof h4
    obtain ⟨s, hs, rfl⟩ := ni_w (N := 4) (by decide) h4.1 h4.2
    refine zz_cS ok rfl trivial rfl lk_Mo_32 ca_Mo_in rfl rfl rfl (sp_Mo_in hG ?_)
    try simp +decide only [z0, z1436, z1437, z1438, z1647, z1728, z1734, mi1 (n := s) (by omega), mi1p (b := s) (by omega), mi4 (a := s) (by omega), mi4p (a := s) (by omega), mi1 (n := k) (by omega), mi1p (b := k) (by omega), mi4 (a := k) (by omega), mi4p (a := k) (by omega), mi2 (a := s) (b := k) (by omega) (by omega), mi2p (a := s) (b := k) (by omega) (by omega), mi2 (a := k) (b := s) (by omega) (by omega), mi2p (a := k) (b := s) (by omega) (by omega), qg]
    try simp (disch := omega) only [if_neg]
    refine zz_b ok rfl trivial rfl (fun h14 => ?_) (fun h14 => ?_)
    · skip
      try simp +decide only [z0, z1436, z1437, z1438, z1647, z1728, z1734, mi1 (n := s) (by omega), mi1p (b := s) (by omega), mi4 (a := s) (by omega), mi4p (a := s) (by omega), mi1 (n := k) (by omega), mi1p (b := k) (by omega), mi4 (a := k) (by omega), mi4p (a := k) (by omega), mi2 (a := s) (b := k) (by omega) (by omega), mi2p (a := s) (b := k) (by omega) (by omega), mi2 (a := k) (b := s) (by omega) (by omega), mi2p (a := k) (b := s) (by omega) (by omega), qg] at h14 ⊢
      try simp (disch := omega) only [if_neg] at h14 ⊢
      have h14 := wi_of h14
      refine zz_i ok rfl trivial rfl rfl ?_
      try simp +decide only [z0, z1436, z1437, z1438, z1647, z1728, z1734, mi1 (n := s) (by omega), mi1p (b := s) (by omega), mi4 (a := s) (by omega), mi4p (a := s) (by omega), mi1 (n := k) (by omega), mi1p (b := k) (by omega), mi4 (a := k) (by omega), mi4p (a := k) (by omega), mi2 (a := s) (b := k) (by omega) (by omega), mi2p (a := s) (b := k) (by omega) (by omega), mi2 (a := k) (b := s) (by omega) (by omega), mi2p (a := k) (b := s) (by omega) (by omega), qg]
      try simp (disch := omega) only [if_neg]
      exact zz_pq h (by simp [m_renew, nsv, zz_ixn (show s < 2147483648 by omega), mi1 (n := s) (by omega), h4, h14]) (by simp [m_renew, nsv, zz_ixn (show s < 2147483648 by omega), mi1 (n := s) (by omega), h4, h14])
    · skip
      try simp +decide only [z0, z1436, z1437, z1438, z1647, z1728, z1734, mi1 (n := s) (by omega), mi1p (b := s) (by omega), mi4 (a := s) (by omega), mi4p (a := s) (by omega), mi1 (n := k) (by omega), mi1p (b := k) (by omega), mi4 (a := k) (by omega), mi4p (a := k) (by omega), mi2 (a := s) (b := k) (by omega) (by omega), mi2p (a := s) (b := k) (by omega) (by omega), mi2 (a := k) (b := s) (by omega) (by omega), mi2p (a := k) (b := s) (by omega) (by omega), qg] at h14 ⊢
      try simp (disch := omega) only [if_neg] at h14 ⊢
      have h14 := wi_nof h14
      refine zz_cV ok rfl trivial rfl lk_Mo_81 ca_Mo_hasIt rfl rfl rfl rfl rfl (sp_Mo_hasIt hG rfl hs ?_)
      try simp +decide only [z0, z1436, z1437, z1438, z1647, z1728, z1734, mi1 (n := s) (by omega), mi1p (b := s) (by omega), mi4 (a := s) (by omega), mi4p (a := s) (by omega), mi1 (n := k) (by omega), mi1p (b := k) (by omega), mi4 (a := k) (by omega), mi4p (a := k) (by omega), mi2 (a := s) (b := k) (by omega) (by omega), mi2p (a := s) (b := k) (by omega) (by omega), mi2 (a := k) (b := s) (by omega) (by omega), mi2p (a := k) (b := s) (by omega) (by omega), qg]
      try simp (disch := omega) only [if_neg]
      refine zz_b ok rfl trivial rfl (fun h26 => ?_) (fun h26 => ?_)
      · skip
        try simp +decide only [z0, z1436, z1437, z1438, z1647, z1728, z1734, mi1 (n := s) (by omega), mi1p (b := s) (by omega), mi4 (a := s) (by omega), mi4p (a := s) (by omega), mi1 (n := k) (by omega), mi1p (b := k) (by omega), mi4 (a := k) (by omega), mi4p (a := k) (by omega), mi2 (a := s) (b := k) (by omega) (by omega), mi2p (a := s) (b := k) (by omega) (by omega), mi2 (a := k) (b := s) (by omega) (by omega), mi2p (a := k) (b := s) (by omega) (by omega), qg] at h26 ⊢
        try simp (disch := omega) only [if_neg] at h26 ⊢
        simp only [zz_bi0, Bool.not_eq_false] at h26
        refine zz_i ok rfl trivial rfl rfl ?_
        try simp +decide only [z0, z1436, z1437, z1438, z1647, z1728, z1734, mi1 (n := s) (by omega), mi1p (b := s) (by omega), mi4 (a := s) (by omega), mi4p (a := s) (by omega), mi1 (n := k) (by omega), mi1p (b := k) (by omega), mi4 (a := k) (by omega), mi4p (a := k) (by omega), mi2 (a := s) (b := k) (by omega) (by omega), mi2p (a := s) (b := k) (by omega) (by omega), mi2 (a := k) (b := s) (by omega) (by omega), mi2p (a := k) (b := s) (by omega) (by omega), qg]
        try simp (disch := omega) only [if_neg]
        exact zz_pq h (by simp [m_renew, nsv, zz_ixn (show s < 2147483648 by omega), mi1 (n := s) (by omega), h4, h14, h26]) (by simp [m_renew, nsv, zz_ixn (show s < 2147483648 by omega), mi1 (n := s) (by omega), h4, h14, h26])
      · skip
        try simp +decide only [z0, z1436, z1437, z1438, z1647, z1728, z1734, mi1 (n := s) (by omega), mi1p (b := s) (by omega), mi4 (a := s) (by omega), mi4p (a := s) (by omega), mi1 (n := k) (by omega), mi1p (b := k) (by omega), mi4 (a := k) (by omega), mi4p (a := k) (by omega), mi2 (a := s) (b := k) (by omega) (by omega), mi2p (a := s) (b := k) (by omega) (by omega), mi2 (a := k) (b := s) (by omega) (by omega), mi2p (a := k) (b := s) (by omega) (by omega), qg] at h26 ⊢
        try simp (disch := omega) only [if_neg] at h26 ⊢
        simp only [zz_bi0, Bool.not_eq_false] at h26
        refine zz_cV ok rfl (by and_intros <;> first | exact True.intro | with_reducible exact v0 | with_reducible exact v1436 | with_reducible exact v1437 | with_reducible exact v1438 | with_reducible exact v1647 | with_reducible exact v1728 | with_reducible exact v1734 | with_reducible exact vi1 (by omega) (by decide) | with_reducible exact vi2 (by omega) (by decide) | with_reducible exact vi3 (by omega) (by decide) | with_reducible exact vi1p (by omega) (by decide) | with_reducible exact vi2p (by omega) (by decide) | with_reducible exact vi4 (by omega) (by decide) | with_reducible exact vi4p (by omega) (by decide) | trivial | exact vi0 (by decide) (by decide)) rfl lk_Mo_36 ca_Mo_reading rfl rfl rfl rfl rfl (sp_Mo_reading hG rfl hs ?_)
        try simp +decide only [z0, z1436, z1437, z1438, z1647, z1728, z1734, mi1 (n := s) (by omega), mi1p (b := s) (by omega), mi4 (a := s) (by omega), mi4p (a := s) (by omega), mi1 (n := k) (by omega), mi1p (b := k) (by omega), mi4 (a := k) (by omega), mi4p (a := k) (by omega), mi2 (a := s) (b := k) (by omega) (by omega), mi2p (a := s) (b := k) (by omega) (by omega), mi2 (a := k) (b := s) (by omega) (by omega), mi2p (a := k) (b := s) (by omega) (by omega), qg]
        try simp (disch := omega) only [if_neg]
        have lp58 : ∀ (f k : Nat), 5 - k < f → k ≤ 5 → ∀ (x6 x5 x4 x3 : Int32) (M' : zM), x6 = nI k → x3 = q M (61 + s) → x4 = m_rd M s + d → (M', x5) = zz_it (m_r1 s x3 x4) k (M, 0) → mw M' → zz_W G Z md_Mo_renew post 58 [(6, .inl x6), (5, .inl x5), (4, .inl x4), (3, .inl x3), (2, .inl d), (1, .inl (nI s)), (0, .inr (.inr (6, 0, 0)))] [] M' := by
          intro f
          induction f with
          | zero => intro k hf; exact absurd hf (Nat.not_lt_zero _)
          | succ f ih => ?_
          intro k hf hk x6 x5 x4 x3 M' e6 e3 e4 eX hm'
          subst e6
          refine zz_b ok rfl trivial rfl (fun h61 => ?_) (fun h61 => ?_)
          · skip
            try simp +decide only [z0, z1436, z1437, z1438, z1647, z1728, z1734, mi1 (n := s) (by omega), mi1p (b := s) (by omega), mi4 (a := s) (by omega), mi4p (a := s) (by omega), mi1 (n := k) (by omega), mi1p (b := k) (by omega), mi4 (a := k) (by omega), mi4p (a := k) (by omega), mi2 (a := s) (b := k) (by omega) (by omega), mi2p (a := s) (b := k) (by omega) (by omega), mi2 (a := k) (b := s) (by omega) (by omega), mi2p (a := k) (b := s) (by omega) (by omega), qg] at h61 ⊢
            try simp (disch := omega) only [if_neg] at h61 ⊢
            rw [ni_lit, ni_ltn (by omega) (by decide)] at h61
            have hk5 : k < 5 := h61
            refine zz_cV ok rfl trivial rfl lk_Mo_88 ca_Mo_answerToRenewal rfl rfl rfl rfl rfl (sp_Mo_answerToRenewal hm' hG rfl hs rfl hk5 ?_)
            try simp +decide only [z0, z1436, z1437, z1438, z1647, z1728, z1734, mi1 (n := s) (by omega), mi1p (b := s) (by omega), mi4 (a := s) (by omega), mi4p (a := s) (by omega), mi1 (n := k) (by omega), mi1p (b := k) (by omega), mi4 (a := k) (by omega), mi4p (a := k) (by omega), mi2 (a := s) (b := k) (by omega) (by omega), mi2p (a := s) (b := k) (by omega) (by omega), mi2 (a := k) (b := s) (by omega) (by omega), mi2p (a := k) (b := s) (by omega) (by omega), qg]
            try simp (disch := omega) only [if_neg]
            refine zz_b ok rfl (by and_intros <;> first | exact True.intro | with_reducible exact v0 | with_reducible exact v1436 | with_reducible exact v1437 | with_reducible exact v1438 | with_reducible exact v1647 | with_reducible exact v1728 | with_reducible exact v1734 | with_reducible exact vi1 (by omega) (by decide) | with_reducible exact vi2 (by omega) (by decide) | with_reducible exact vi3 (by omega) (by decide) | with_reducible exact vi1p (by omega) (by decide) | with_reducible exact vi2p (by omega) (by decide) | with_reducible exact vi4 (by omega) (by decide) | with_reducible exact vi4p (by omega) (by decide) | trivial | exact vi0 (by decide) (by decide)) rfl (fun h89 => ?_) (fun h89 => ?_)
            · skip
              try simp +decide only [z0, z1436, z1437, z1438, z1647, z1728, z1734, mi1 (n := s) (by omega), mi1p (b := s) (by omega), mi4 (a := s) (by omega), mi4p (a := s) (by omega), mi1 (n := k) (by omega), mi1p (b := k) (by omega), mi4 (a := k) (by omega), mi4p (a := k) (by omega), mi2 (a := s) (b := k) (by omega) (by omega), mi2p (a := s) (b := k) (by omega) (by omega), mi2 (a := k) (b := s) (by omega) (by omega), mi2p (a := k) (b := s) (by omega) (by omega), qg] at h89 ⊢
              try simp (disch := omega) only [if_neg] at h89 ⊢
              refine zz_b ok rfl (by and_intros <;> first | exact True.intro | with_reducible exact v0 | with_reducible exact v1436 | with_reducible exact v1437 | with_reducible exact v1438 | with_reducible exact v1647 | with_reducible exact v1728 | with_reducible exact v1734 | with_reducible exact vi1 (by omega) (by decide) | with_reducible exact vi2 (by omega) (by decide) | with_reducible exact vi3 (by omega) (by decide) | with_reducible exact vi1p (by omega) (by decide) | with_reducible exact vi2p (by omega) (by decide) | with_reducible exact vi4 (by omega) (by decide) | with_reducible exact vi4p (by omega) (by decide) | trivial | exact vi0 (by decide) (by decide)) rfl (fun h114 => ?_) (fun h114 => ?_)
              · skip
                try simp +decide only [z0, z1436, z1437, z1438, z1647, z1728, z1734, mi1 (n := s) (by omega), mi1p (b := s) (by omega), mi4 (a := s) (by omega), mi4p (a := s) (by omega), mi1 (n := k) (by omega), mi1p (b := k) (by omega), mi4 (a := k) (by omega), mi4p (a := k) (by omega), mi2 (a := s) (b := k) (by omega) (by omega), mi2p (a := s) (b := k) (by omega) (by omega), mi2 (a := k) (b := s) (by omega) (by omega), mi2p (a := k) (b := s) (by omega) (by omega), qg] at h114 ⊢
                try simp (disch := omega) only [if_neg] at h114 ⊢
                refine zz_b ok rfl (by and_intros <;> first | exact True.intro | with_reducible exact v0 | with_reducible exact v1436 | with_reducible exact v1437 | with_reducible exact v1438 | with_reducible exact v1647 | with_reducible exact v1728 | with_reducible exact v1734 | with_reducible exact vi1 (by omega) (by decide) | with_reducible exact vi2 (by omega) (by decide) | with_reducible exact vi3 (by omega) (by decide) | with_reducible exact vi1p (by omega) (by decide) | with_reducible exact vi2p (by omega) (by decide) | with_reducible exact vi4 (by omega) (by decide) | with_reducible exact vi4p (by omega) (by decide) | trivial | exact vi0 (by decide) (by decide)) rfl (fun h129 => ?_) (fun h129 => ?_)
                · skip
                  try simp +decide only [z0, z1436, z1437, z1438, z1647, z1728, z1734, mi1 (n := s) (by omega), mi1p (b := s) (by omega), mi4 (a := s) (by omega), mi4p (a := s) (by omega), mi1 (n := k) (by omega), mi1p (b := k) (by omega), mi4 (a := k) (by omega), mi4p (a := k) (by omega), mi2 (a := s) (b := k) (by omega) (by omega), mi2p (a := s) (b := k) (by omega) (by omega), mi2 (a := k) (b := s) (by omega) (by omega), mi2p (a := k) (b := s) (by omega) (by omega), qg] at h129 ⊢
                  try simp (disch := omega) only [if_neg] at h129 ⊢
                  refine zz_b ok rfl trivial rfl (fun h150 => ?_) (fun h150 => ?_)
                  · skip
                    exact absurd h150 (by decide)
                  · skip
                    try simp +decide only [z0, z1436, z1437, z1438, z1647, z1728, z1734, mi1 (n := s) (by omega), mi1p (b := s) (by omega), mi4 (a := s) (by omega), mi4p (a := s) (by omega), mi1 (n := k) (by omega), mi1p (b := k) (by omega), mi4 (a := k) (by omega), mi4p (a := k) (by omega), mi2 (a := s) (b := k) (by omega) (by omega), mi2p (a := s) (b := k) (by omega) (by omega), mi2 (a := k) (b := s) (by omega) (by omega), mi2p (a := k) (b := s) (by omega) (by omega), qg] at h150 ⊢
                    try simp (disch := omega) only [if_neg] at h150 ⊢
                    skip
                    refine zz_g ok rfl (by and_intros <;> first | exact True.intro | with_reducible exact v0 | with_reducible exact v1436 | with_reducible exact v1437 | with_reducible exact v1438 | with_reducible exact v1647 | with_reducible exact v1728 | with_reducible exact v1734 | with_reducible exact vi1 (by omega) (by decide) | with_reducible exact vi2 (by omega) (by decide) | with_reducible exact vi3 (by omega) (by decide) | with_reducible exact vi1p (by omega) (by decide) | with_reducible exact vi2p (by omega) (by decide) | with_reducible exact vi4 (by omega) (by decide) | with_reducible exact vi4p (by omega) (by decide) | trivial | exact vi0 (by decide) (by decide)) ?_
                    refine zz_pm [6, 5, 4, 3, 2, 1, 0] rfl ?_
                    try simp +decide only [z0, z1436, z1437, z1438, z1647, z1728, z1734, mi1 (n := s) (by omega), mi1p (b := s) (by omega), mi4 (a := s) (by omega), mi4p (a := s) (by omega), mi1 (n := k) (by omega), mi1p (b := k) (by omega), mi4 (a := k) (by omega), mi4p (a := k) (by omega), mi2 (a := s) (b := k) (by omega) (by omega), mi2p (a := s) (b := k) (by omega) (by omega), mi2 (a := k) (b := s) (by omega) (by omega), mi2p (a := k) (b := s) (by omega) (by omega), qg]
                    try simp (disch := omega) only [if_neg]
                    exact ih (k + 1) (by omega) (by omega) _ _ _ _ _ (nI_1 k) e3 e4 (by rw [zz_it, ← eX, m_r1]; rw [if_pos h89, if_pos ⟨h114, h129⟩]) (by exact (mw_set (by unfold mwi; omega) (mw_set (by unfold mwi; omega) (mw_set (by unfold mwi; omega) (mw_set (by unfold mwi; omega) hm')))))
                · skip
                  try simp +decide only [z0, z1436, z1437, z1438, z1647, z1728, z1734, mi1 (n := s) (by omega), mi1p (b := s) (by omega), mi4 (a := s) (by omega), mi4p (a := s) (by omega), mi1 (n := k) (by omega), mi1p (b := k) (by omega), mi4 (a := k) (by omega), mi4p (a := k) (by omega), mi2 (a := s) (b := k) (by omega) (by omega), mi2p (a := s) (b := k) (by omega) (by omega), mi2 (a := k) (b := s) (by omega) (by omega), mi2p (a := k) (b := s) (by omega) (by omega), qg] at h129 ⊢
                  try simp (disch := omega) only [if_neg] at h129 ⊢
                  refine zz_b ok rfl trivial rfl (fun h150 => ?_) (fun h150 => ?_)
                  · skip
                    try simp +decide only [z0, z1436, z1437, z1438, z1647, z1728, z1734, mi1 (n := s) (by omega), mi1p (b := s) (by omega), mi4 (a := s) (by omega), mi4p (a := s) (by omega), mi1 (n := k) (by omega), mi1p (b := k) (by omega), mi4 (a := k) (by omega), mi4p (a := k) (by omega), mi2 (a := s) (b := k) (by omega) (by omega), mi2p (a := s) (b := k) (by omega) (by omega), mi2 (a := k) (b := s) (by omega) (by omega), mi2p (a := k) (b := s) (by omega) (by omega), qg] at h150 ⊢
                    try simp (disch := omega) only [if_neg] at h150 ⊢
                    skip
                    refine zz_g ok rfl (by and_intros <;> first | exact True.intro | with_reducible exact v0 | with_reducible exact v1436 | with_reducible exact v1437 | with_reducible exact v1438 | with_reducible exact v1647 | with_reducible exact v1728 | with_reducible exact v1734 | with_reducible exact vi1 (by omega) (by decide) | with_reducible exact vi2 (by omega) (by decide) | with_reducible exact vi3 (by omega) (by decide) | with_reducible exact vi1p (by omega) (by decide) | with_reducible exact vi2p (by omega) (by decide) | with_reducible exact vi4 (by omega) (by decide) | with_reducible exact vi4p (by omega) (by decide) | trivial | exact vi0 (by decide) (by decide)) ?_
                    refine zz_pm [6, 5, 4, 3, 2, 1, 0] rfl ?_
                    try simp +decide only [z0, z1436, z1437, z1438, z1647, z1728, z1734, mi1 (n := s) (by omega), mi1p (b := s) (by omega), mi4 (a := s) (by omega), mi4p (a := s) (by omega), mi1 (n := k) (by omega), mi1p (b := k) (by omega), mi4 (a := k) (by omega), mi4p (a := k) (by omega), mi2 (a := s) (b := k) (by omega) (by omega), mi2p (a := s) (b := k) (by omega) (by omega), mi2 (a := k) (b := s) (by omega) (by omega), mi2p (a := k) (b := s) (by omega) (by omega), qg]
                    try simp (disch := omega) only [if_neg]
                    exact ih (k + 1) (by omega) (by omega) _ _ _ _ _ (nI_1 k) e3 e4 (by rw [zz_it, ← eX, m_r1]; rw [if_pos h89, if_neg (fun z => h129 z.2)]) (by exact (mw_set (by unfold mwi; omega) (mw_set (by unfold mwi; omega) (mw_set (by unfold mwi; omega) (mw_set (by unfold mwi; omega) hm')))))
                  · skip
                    exact absurd rfl h150
              · skip
                try simp +decide only [z0, z1436, z1437, z1438, z1647, z1728, z1734, mi1 (n := s) (by omega), mi1p (b := s) (by omega), mi4 (a := s) (by omega), mi4p (a := s) (by omega), mi1 (n := k) (by omega), mi1p (b := k) (by omega), mi4 (a := k) (by omega), mi4p (a := k) (by omega), mi2 (a := s) (b := k) (by omega) (by omega), mi2p (a := s) (b := k) (by omega) (by omega), mi2 (a := k) (b := s) (by omega) (by omega), mi2p (a := k) (b := s) (by omega) (by omega), qg] at h114 ⊢
                try simp (disch := omega) only [if_neg] at h114 ⊢
                refine zz_b ok rfl trivial rfl (fun h150 => ?_) (fun h150 => ?_)
                · skip
                  try simp +decide only [z0, z1436, z1437, z1438, z1647, z1728, z1734, mi1 (n := s) (by omega), mi1p (b := s) (by omega), mi4 (a := s) (by omega), mi4p (a := s) (by omega), mi1 (n := k) (by omega), mi1p (b := k) (by omega), mi4 (a := k) (by omega), mi4p (a := k) (by omega), mi2 (a := s) (b := k) (by omega) (by omega), mi2p (a := s) (b := k) (by omega) (by omega), mi2 (a := k) (b := s) (by omega) (by omega), mi2p (a := k) (b := s) (by omega) (by omega), qg] at h150 ⊢
                  try simp (disch := omega) only [if_neg] at h150 ⊢
                  skip
                  refine zz_g ok rfl (by and_intros <;> first | exact True.intro | with_reducible exact v0 | with_reducible exact v1436 | with_reducible exact v1437 | with_reducible exact v1438 | with_reducible exact v1647 | with_reducible exact v1728 | with_reducible exact v1734 | with_reducible exact vi1 (by omega) (by decide) | with_reducible exact vi2 (by omega) (by decide) | with_reducible exact vi3 (by omega) (by decide) | with_reducible exact vi1p (by omega) (by decide) | with_reducible exact vi2p (by omega) (by decide) | with_reducible exact vi4 (by omega) (by decide) | with_reducible exact vi4p (by omega) (by decide) | trivial | exact vi0 (by decide) (by decide)) ?_
                  refine zz_pm [6, 5, 4, 3, 2, 1, 0] rfl ?_
                  try simp +decide only [z0, z1436, z1437, z1438, z1647, z1728, z1734, mi1 (n := s) (by omega), mi1p (b := s) (by omega), mi4 (a := s) (by omega), mi4p (a := s) (by omega), mi1 (n := k) (by omega), mi1p (b := k) (by omega), mi4 (a := k) (by omega), mi4p (a := k) (by omega), mi2 (a := s) (b := k) (by omega) (by omega), mi2p (a := s) (b := k) (by omega) (by omega), mi2 (a := k) (b := s) (by omega) (by omega), mi2p (a := k) (b := s) (by omega) (by omega), qg]
                  try simp (disch := omega) only [if_neg]
                  exact ih (k + 1) (by omega) (by omega) _ _ _ _ _ (nI_1 k) e3 e4 (by rw [zz_it, ← eX, m_r1]; rw [if_pos h89, if_neg (fun z => h114 z.1)]) (by exact (mw_set (by unfold mwi; omega) (mw_set (by unfold mwi; omega) (mw_set (by unfold mwi; omega) (mw_set (by unfold mwi; omega) hm')))))
                · skip
                  exact absurd rfl h150
            · skip
              try simp +decide only [z0, z1436, z1437, z1438, z1647, z1728, z1734, mi1 (n := s) (by omega), mi1p (b := s) (by omega), mi4 (a := s) (by omega), mi4p (a := s) (by omega), mi1 (n := k) (by omega), mi1p (b := k) (by omega), mi4 (a := k) (by omega), mi4p (a := k) (by omega), mi2 (a := s) (b := k) (by omega) (by omega), mi2p (a := s) (b := k) (by omega) (by omega), mi2 (a := k) (b := s) (by omega) (by omega), mi2p (a := k) (b := s) (by omega) (by omega), qg] at h89 ⊢
              try simp (disch := omega) only [if_neg] at h89 ⊢
              refine zz_g ok rfl trivial ?_
              refine zz_pm [6, 5, 4, 3, 2, 1, 0] rfl ?_
              try simp +decide only [z0, z1436, z1437, z1438, z1647, z1728, z1734, mi1 (n := s) (by omega), mi1p (b := s) (by omega), mi4 (a := s) (by omega), mi4p (a := s) (by omega), mi1 (n := k) (by omega), mi1p (b := k) (by omega), mi4 (a := k) (by omega), mi4p (a := k) (by omega), mi2 (a := s) (b := k) (by omega) (by omega), mi2p (a := s) (b := k) (by omega) (by omega), mi2 (a := k) (b := s) (by omega) (by omega), mi2p (a := k) (b := s) (by omega) (by omega), qg]
              try simp (disch := omega) only [if_neg]
              exact ih (k + 1) (by omega) (by omega) _ _ _ _ _ (nI_1 k) e3 e4 (by rw [zz_it, ← eX, m_r1]; rw [if_neg h89]) (by exact mw_set (by unfold mwi; omega) hm')
          · skip
            try simp +decide only [z0, z1436, z1437, z1438, z1647, z1728, z1734, mi1 (n := s) (by omega), mi1p (b := s) (by omega), mi4 (a := s) (by omega), mi4p (a := s) (by omega), mi1 (n := k) (by omega), mi1p (b := k) (by omega), mi4 (a := k) (by omega), mi4p (a := k) (by omega), mi2 (a := s) (b := k) (by omega) (by omega), mi2p (a := s) (b := k) (by omega) (by omega), mi2 (a := k) (b := s) (by omega) (by omega), mi2p (a := k) (b := s) (by omega) (by omega), qg] at h61 ⊢
            try simp (disch := omega) only [if_neg] at h61 ⊢
            rw [ni_lit, ni_ltn (by omega) (by decide)] at h61
            have hk6 : k = 5 := by omega
            subst hk6
            subst e3; subst e4
            have eX1 : m_rX M s d = (M', x5) := eX.symm
            refine zz_b ok rfl (by and_intros <;> first | exact True.intro | with_reducible exact v0 | with_reducible exact v1436 | with_reducible exact v1437 | with_reducible exact v1438 | with_reducible exact v1647 | with_reducible exact v1728 | with_reducible exact v1734 | with_reducible exact vi1 (by omega) (by decide) | with_reducible exact vi2 (by omega) (by decide) | with_reducible exact vi3 (by omega) (by decide) | with_reducible exact vi1p (by omega) (by decide) | with_reducible exact vi2p (by omega) (by decide) | with_reducible exact vi4 (by omega) (by decide) | with_reducible exact vi4p (by omega) (by decide) | trivial | exact vi0 (by decide) (by decide)) rfl (fun h201 => ?_) (fun h201 => ?_)
            · skip
              try simp +decide only [z0, z1436, z1437, z1438, z1647, z1728, z1734, mi1 (n := s) (by omega), mi1p (b := s) (by omega), mi4 (a := s) (by omega), mi4p (a := s) (by omega), mi1 (n := k) (by omega), mi1p (b := k) (by omega), mi4 (a := k) (by omega), mi4p (a := k) (by omega), mi2 (a := s) (b := k) (by omega) (by omega), mi2p (a := s) (b := k) (by omega) (by omega), mi2 (a := k) (b := s) (by omega) (by omega), mi2p (a := k) (b := s) (by omega) (by omega), qg] at h201 ⊢
              try simp (disch := omega) only [if_neg] at h201 ⊢
              refine zz_i ok rfl trivial rfl rfl ?_
              try simp +decide only [z0, z1436, z1437, z1438, z1647, z1728, z1734, mi1 (n := s) (by omega), mi1p (b := s) (by omega), mi4 (a := s) (by omega), mi4p (a := s) (by omega), mi1 (n := k) (by omega), mi1p (b := k) (by omega), mi4 (a := k) (by omega), mi4p (a := k) (by omega), mi2 (a := s) (b := k) (by omega) (by omega), mi2p (a := s) (b := k) (by omega) (by omega), mi2 (a := k) (b := s) (by omega) (by omega), mi2p (a := k) (b := s) (by omega) (by omega), qg]
              try simp (disch := omega) only [if_neg]
              exact zz_pq h (by simp [m_renew, nsv, h4, h14, h26, zz_ixn (show s < 2147483648 by omega), m_rn, eX1, h201]) (by simp [m_renew, nsv, h4, h14, h26, zz_ixn (show s < 2147483648 by omega), m_rn, eX1, h201, z1734])
            · skip
              try simp +decide only [z0, z1436, z1437, z1438, z1647, z1728, z1734, mi1 (n := s) (by omega), mi1p (b := s) (by omega), mi4 (a := s) (by omega), mi4p (a := s) (by omega), mi1 (n := k) (by omega), mi1p (b := k) (by omega), mi4 (a := k) (by omega), mi4p (a := k) (by omega), mi2 (a := s) (b := k) (by omega) (by omega), mi2p (a := s) (b := k) (by omega) (by omega), mi2 (a := k) (b := s) (by omega) (by omega), mi2p (a := k) (b := s) (by omega) (by omega), qg] at h201 ⊢
              try simp (disch := omega) only [if_neg] at h201 ⊢
              refine zz_b ok rfl (by and_intros <;> first | exact True.intro | with_reducible exact v0 | with_reducible exact v1436 | with_reducible exact v1437 | with_reducible exact v1438 | with_reducible exact v1647 | with_reducible exact v1728 | with_reducible exact v1734 | with_reducible exact vi1 (by omega) (by decide) | with_reducible exact vi2 (by omega) (by decide) | with_reducible exact vi3 (by omega) (by decide) | with_reducible exact vi1p (by omega) (by decide) | with_reducible exact vi2p (by omega) (by decide) | with_reducible exact vi4 (by omega) (by decide) | with_reducible exact vi4p (by omega) (by decide) | trivial | exact vi0 (by decide) (by decide)) rfl (fun h229 => ?_) (fun h229 => ?_)
              · skip
                try simp +decide only [z0, z1436, z1437, z1438, z1647, z1728, z1734, mi1 (n := s) (by omega), mi1p (b := s) (by omega), mi4 (a := s) (by omega), mi4p (a := s) (by omega), mi1 (n := k) (by omega), mi1p (b := k) (by omega), mi4 (a := k) (by omega), mi4p (a := k) (by omega), mi2 (a := s) (b := k) (by omega) (by omega), mi2p (a := s) (b := k) (by omega) (by omega), mi2 (a := k) (b := s) (by omega) (by omega), mi2p (a := k) (b := s) (by omega) (by omega), qg] at h229 ⊢
                try simp (disch := omega) only [if_neg] at h229 ⊢
                simp +decide only [z0, z1436, z1437, z1438, z1647, z1728, z1734, mi1 (n := s) (by omega), mi1p (b := s) (by omega), mi4 (a := s) (by omega), mi4p (a := s) (by omega), qg] at h229
                simp (disch := omega) only [if_neg] at h229
                refine zz_i ok rfl (by and_intros <;> first | exact True.intro | with_reducible exact v0 | with_reducible exact v1436 | with_reducible exact v1437 | with_reducible exact v1438 | with_reducible exact v1647 | with_reducible exact v1728 | with_reducible exact v1734 | with_reducible exact vi1 (by omega) (by decide) | with_reducible exact vi2 (by omega) (by decide) | with_reducible exact vi3 (by omega) (by decide) | with_reducible exact vi1p (by omega) (by decide) | with_reducible exact vi2p (by omega) (by decide) | with_reducible exact vi4 (by omega) (by decide) | with_reducible exact vi4p (by omega) (by decide) | trivial | exact vi0 (by decide) (by decide)) rfl rfl ?_
                try simp +decide only [z0, z1436, z1437, z1438, z1647, z1728, z1734, mi1 (n := s) (by omega), mi1p (b := s) (by omega), mi4 (a := s) (by omega), mi4p (a := s) (by omega), mi1 (n := k) (by omega), mi1p (b := k) (by omega), mi4 (a := k) (by omega), mi4p (a := k) (by omega), mi2 (a := s) (b := k) (by omega) (by omega), mi2p (a := s) (b := k) (by omega) (by omega), mi2 (a := k) (b := s) (by omega) (by omega), mi2p (a := k) (b := s) (by omega) (by omega), qg]
                try simp (disch := omega) only [if_neg]
                simp +decide only [z0, z1436, z1437, z1438, z1647, z1728, z1734, mi1 (n := s) (by omega), mi1p (b := s) (by omega), mi4 (a := s) (by omega), mi4p (a := s) (by omega), qg]
                simp (disch := omega) only [if_neg, if_true]
                exact zz_pq h (by simp [m_renew, nsv, h4, h14, h26, zz_ixn (show s < 2147483648 by omega), m_rn, eX1, h201, mx, h229]) (by simp [m_renew, nsv, h4, h14, h26, zz_ixn (show s < 2147483648 by omega), m_rn, eX1, h201, mx, h229])
              · skip
                try simp +decide only [z0, z1436, z1437, z1438, z1647, z1728, z1734, mi1 (n := s) (by omega), mi1p (b := s) (by omega), mi4 (a := s) (by omega), mi4p (a := s) (by omega), mi1 (n := k) (by omega), mi1p (b := k) (by omega), mi4 (a := k) (by omega), mi4p (a := k) (by omega), mi2 (a := s) (b := k) (by omega) (by omega), mi2p (a := s) (b := k) (by omega) (by omega), mi2 (a := k) (b := s) (by omega) (by omega), mi2p (a := k) (b := s) (by omega) (by omega), qg] at h229 ⊢
                try simp (disch := omega) only [if_neg] at h229 ⊢
                simp +decide only [z0, z1436, z1437, z1438, z1647, z1728, z1734, mi1 (n := s) (by omega), mi1p (b := s) (by omega), mi4 (a := s) (by omega), mi4p (a := s) (by omega), qg] at h229
                simp (disch := omega) only [if_neg] at h229
                refine zz_i ok rfl (by and_intros <;> first | exact True.intro | with_reducible exact v0 | with_reducible exact v1436 | with_reducible exact v1437 | with_reducible exact v1438 | with_reducible exact v1647 | with_reducible exact v1728 | with_reducible exact v1734 | with_reducible exact vi1 (by omega) (by decide) | with_reducible exact vi2 (by omega) (by decide) | with_reducible exact vi3 (by omega) (by decide) | with_reducible exact vi1p (by omega) (by decide) | with_reducible exact vi2p (by omega) (by decide) | with_reducible exact vi4 (by omega) (by decide) | with_reducible exact vi4p (by omega) (by decide) | trivial | exact vi0 (by decide) (by decide)) rfl rfl ?_
                try simp +decide only [z0, z1436, z1437, z1438, z1647, z1728, z1734, mi1 (n := s) (by omega), mi1p (b := s) (by omega), mi4 (a := s) (by omega), mi4p (a := s) (by omega), mi1 (n := k) (by omega), mi1p (b := k) (by omega), mi4 (a := k) (by omega), mi4p (a := k) (by omega), mi2 (a := s) (b := k) (by omega) (by omega), mi2p (a := s) (b := k) (by omega) (by omega), mi2 (a := k) (b := s) (by omega) (by omega), mi2p (a := k) (b := s) (by omega) (by omega), qg]
                try simp (disch := omega) only [if_neg]
                simp +decide only [z0, z1436, z1437, z1438, z1647, z1728, z1734, mi1 (n := s) (by omega), mi1p (b := s) (by omega), mi4 (a := s) (by omega), mi4p (a := s) (by omega), qg]
                simp (disch := omega) only [if_neg, if_true]
                exact zz_pq h (by simp [m_renew, nsv, h4, h14, h26, zz_ixn (show s < 2147483648 by omega), m_rn, eX1, h201, mx, h229]) (by simp [m_renew, nsv, h4, h14, h26, zz_ixn (show s < 2147483648 by omega), m_rn, eX1, h201, mx, h229])
        refine zz_g ok rfl trivial ?_
        refine zz_pm [6, 5, 4, 3, 2, 1, 0] rfl ?_
        simp +decide only [z0, z1436, z1437, z1438, z1647, z1728, z1734, mi1 (n := s) (by omega), mi1p (b := s) (by omega), mi4 (a := s) (by omega), mi4p (a := s) (by omega)]
        exact lp58 6 0 (by omega) (by omega) _ _ _ _ _ rfl rfl rfl rfl hm
theorem sp_Mo_givesUp {G : zG} {post : Option zV → zM → Prop} {M : zM} {s : Nat} {a : Int32} (hG : zz_go G) (ea : a = nI s) (hs : s < 5) (h : post (some (.inl (m_gu M s).2)) (m_gu M s).1) : zz_T G md_Mo_givesUp [.inr (.inr (6, 0, 0)), .inl a] M post := by
  refine en_Mo_givesUp hG rfl (fun Z ok => ?_)
  subst ea
  have lp14 : ∀ (f k : Nat), 5 - k < f → k ≤ 5 → ∀ (x3 x2 : Int32) (M' : zM), x3 = nI k → (M', x2) = zz_it (m_u1 s) k (qs M (61 + s) 0, 0) → zz_W G Z md_Mo_givesUp post 14 [(3, .inl x3), (2, .inl x2), (1, .inl (nI s)), (0, .inr (.inr (6, 0, 0)))] [] M' := by
    intro f
    induction f with
    | zero => intro k hf; exact absurd hf (Nat.not_lt_zero _)
    | succ f ih => ?_
    intro k hf hk x3 x2 M' e3 eX
    subst e3
    refine zz_b ok rfl trivial rfl (fun h16 => ?_) (fun h16 => ?_)
    · skip
      try simp +decide only [z0, z1436, z1437, z1438, z1647, z1728, z1734, mi1 (n := s) (by omega), mi1p (b := s) (by omega), mi4 (a := s) (by omega), mi4p (a := s) (by omega), mi1 (n := k) (by omega), mi1p (b := k) (by omega), mi4 (a := k) (by omega), mi4p (a := k) (by omega), mi2 (a := s) (b := k) (by omega) (by omega), mi2p (a := s) (b := k) (by omega) (by omega), mi2 (a := k) (b := s) (by omega) (by omega), mi2p (a := k) (b := s) (by omega) (by omega), qg] at h16 ⊢
      try simp (disch := omega) only [if_neg] at h16 ⊢
      rw [ni_lit, ni_ltn (by omega) (by decide)] at h16
      have hk5 : k < 5 := h16
      refine zz_cV ok rfl trivial rfl lk_Mo_68 ca_Mo_reaches rfl rfl rfl rfl rfl (sp_Mo_reaches hG rfl hs rfl hk5 ?_)
      try simp +decide only [z0, z1436, z1437, z1438, z1647, z1728, z1734, mi1 (n := s) (by omega), mi1p (b := s) (by omega), mi4 (a := s) (by omega), mi4p (a := s) (by omega), mi1 (n := k) (by omega), mi1p (b := k) (by omega), mi4 (a := k) (by omega), mi4p (a := k) (by omega), mi2 (a := s) (b := k) (by omega) (by omega), mi2p (a := s) (b := k) (by omega) (by omega), mi2 (a := k) (b := s) (by omega) (by omega), mi2p (a := k) (b := s) (by omega) (by omega), qg]
      try simp (disch := omega) only [if_neg]
      refine zz_b ok rfl trivial rfl (fun h25 => ?_) (fun h25 => ?_)
      · skip
        try simp +decide only [z0, z1436, z1437, z1438, z1647, z1728, z1734, mi1 (n := s) (by omega), mi1p (b := s) (by omega), mi4 (a := s) (by omega), mi4p (a := s) (by omega), mi1 (n := k) (by omega), mi1p (b := k) (by omega), mi4 (a := k) (by omega), mi4p (a := k) (by omega), mi2 (a := s) (b := k) (by omega) (by omega), mi2p (a := s) (b := k) (by omega) (by omega), mi2 (a := k) (b := s) (by omega) (by omega), mi2p (a := k) (b := s) (by omega) (by omega), qg] at h25 ⊢
        try simp (disch := omega) only [if_neg] at h25 ⊢
        simp only [zz_bi0, Bool.not_eq_false] at h25
        refine zz_g ok rfl trivial ?_
        refine zz_pm [3, 2, 1, 0] rfl ?_
        try simp +decide only [z0, z1436, z1437, z1438, z1647, z1728, z1734, mi1 (n := s) (by omega), mi1p (b := s) (by omega), mi4 (a := s) (by omega), mi4p (a := s) (by omega), mi1 (n := k) (by omega), mi1p (b := k) (by omega), mi4 (a := k) (by omega), mi4p (a := k) (by omega), mi2 (a := s) (b := k) (by omega) (by omega), mi2p (a := s) (b := k) (by omega) (by omega), mi2 (a := k) (b := s) (by omega) (by omega), mi2p (a := k) (b := s) (by omega) (by omega), qg]
        try simp (disch := omega) only [if_neg]
        exact ih (k + 1) (by omega) (by omega) _ _ _ (nI_1 k) (by rw [zz_it, ← eX, m_u1]; rw [if_neg (by simp [h25])])
      · skip
        try simp +decide only [z0, z1436, z1437, z1438, z1647, z1728, z1734, mi1 (n := s) (by omega), mi1p (b := s) (by omega), mi4 (a := s) (by omega), mi4p (a := s) (by omega), mi1 (n := k) (by omega), mi1p (b := k) (by omega), mi4 (a := k) (by omega), mi4p (a := k) (by omega), mi2 (a := s) (b := k) (by omega) (by omega), mi2p (a := s) (b := k) (by omega) (by omega), mi2 (a := k) (b := s) (by omega) (by omega), mi2p (a := k) (b := s) (by omega) (by omega), qg] at h25 ⊢
        try simp (disch := omega) only [if_neg] at h25 ⊢
        simp only [zz_bi0, Bool.not_eq_false] at h25
        refine zz_b ok rfl (by and_intros <;> first | exact True.intro | with_reducible exact v0 | with_reducible exact v1436 | with_reducible exact v1437 | with_reducible exact v1438 | with_reducible exact v1647 | with_reducible exact v1728 | with_reducible exact v1734 | with_reducible exact vi1 (by omega) (by decide) | with_reducible exact vi2 (by omega) (by decide) | with_reducible exact vi3 (by omega) (by decide) | with_reducible exact vi1p (by omega) (by decide) | with_reducible exact vi2p (by omega) (by decide) | with_reducible exact vi4 (by omega) (by decide) | with_reducible exact vi4p (by omega) (by decide) | trivial | exact vi0 (by decide) (by decide)) rfl (fun h38 => ?_) (fun h38 => ?_)
        · skip
          try simp +decide only [z0, z1436, z1437, z1438, z1647, z1728, z1734, mi1 (n := s) (by omega), mi1p (b := s) (by omega), mi4 (a := s) (by omega), mi4p (a := s) (by omega), mi1 (n := k) (by omega), mi1p (b := k) (by omega), mi4 (a := k) (by omega), mi4p (a := k) (by omega), mi2 (a := s) (b := k) (by omega) (by omega), mi2p (a := s) (b := k) (by omega) (by omega), mi2 (a := k) (b := s) (by omega) (by omega), mi2p (a := k) (b := s) (by omega) (by omega), qg] at h38 ⊢
          try simp (disch := omega) only [if_neg] at h38 ⊢
          refine zz_g ok rfl (by and_intros <;> first | exact True.intro | with_reducible exact v0 | with_reducible exact v1436 | with_reducible exact v1437 | with_reducible exact v1438 | with_reducible exact v1647 | with_reducible exact v1728 | with_reducible exact v1734 | with_reducible exact vi1 (by omega) (by decide) | with_reducible exact vi2 (by omega) (by decide) | with_reducible exact vi3 (by omega) (by decide) | with_reducible exact vi1p (by omega) (by decide) | with_reducible exact vi2p (by omega) (by decide) | with_reducible exact vi4 (by omega) (by decide) | with_reducible exact vi4p (by omega) (by decide) | trivial | exact vi0 (by decide) (by decide)) ?_
          refine zz_pm [3, 2, 1, 0] rfl ?_
          try simp +decide only [z0, z1436, z1437, z1438, z1647, z1728, z1734, mi1 (n := s) (by omega), mi1p (b := s) (by omega), mi4 (a := s) (by omega), mi4p (a := s) (by omega), mi1 (n := k) (by omega), mi1p (b := k) (by omega), mi4 (a := k) (by omega), mi4p (a := k) (by omega), mi2 (a := s) (b := k) (by omega) (by omega), mi2p (a := s) (b := k) (by omega) (by omega), mi2 (a := k) (b := s) (by omega) (by omega), mi2p (a := k) (b := s) (by omega) (by omega), qg]
          try simp (disch := omega) only [if_neg]
          exact ih (k + 1) (by omega) (by omega) _ _ _ (nI_1 k) (by rw [zz_it, ← eX, m_u1]; rw [if_pos ⟨h25, h38⟩])
        · skip
          try simp +decide only [z0, z1436, z1437, z1438, z1647, z1728, z1734, mi1 (n := s) (by omega), mi1p (b := s) (by omega), mi4 (a := s) (by omega), mi4p (a := s) (by omega), mi1 (n := k) (by omega), mi1p (b := k) (by omega), mi4 (a := k) (by omega), mi4p (a := k) (by omega), mi2 (a := s) (b := k) (by omega) (by omega), mi2p (a := s) (b := k) (by omega) (by omega), mi2 (a := k) (b := s) (by omega) (by omega), mi2p (a := k) (b := s) (by omega) (by omega), qg] at h38 ⊢
          try simp (disch := omega) only [if_neg] at h38 ⊢
          refine zz_g ok rfl trivial ?_
          refine zz_pm [3, 2, 1, 0] rfl ?_
          try simp +decide only [z0, z1436, z1437, z1438, z1647, z1728, z1734, mi1 (n := s) (by omega), mi1p (b := s) (by omega), mi4 (a := s) (by omega), mi4p (a := s) (by omega), mi1 (n := k) (by omega), mi1p (b := k) (by omega), mi4 (a := k) (by omega), mi4p (a := k) (by omega), mi2 (a := s) (b := k) (by omega) (by omega), mi2p (a := s) (b := k) (by omega) (by omega), mi2 (a := k) (b := s) (by omega) (by omega), mi2p (a := k) (b := s) (by omega) (by omega), qg]
          try simp (disch := omega) only [if_neg]
          exact ih (k + 1) (by omega) (by omega) _ _ _ (nI_1 k) (by rw [zz_it, ← eX, m_u1]; rw [if_neg (fun z => h38 z.2)])
    · skip
      try simp +decide only [z0, z1436, z1437, z1438, z1647, z1728, z1734, mi1 (n := s) (by omega), mi1p (b := s) (by omega), mi4 (a := s) (by omega), mi4p (a := s) (by omega), mi1 (n := k) (by omega), mi1p (b := k) (by omega), mi4 (a := k) (by omega), mi4p (a := k) (by omega), mi2 (a := s) (b := k) (by omega) (by omega), mi2p (a := s) (b := k) (by omega) (by omega), mi2 (a := k) (b := s) (by omega) (by omega), mi2p (a := k) (b := s) (by omega) (by omega), qg] at h16 ⊢
      try simp (disch := omega) only [if_neg] at h16 ⊢
      rw [ni_lit, ni_ltn (by omega) (by decide)] at h16
      have hk6 : k = 5 := by omega
      subst hk6
      refine zz_i ok rfl trivial rfl rfl ?_
      try simp +decide only [z0, z1436, z1437, z1438, z1647, z1728, z1734, mi1 (n := s) (by omega), mi1p (b := s) (by omega), mi4 (a := s) (by omega), mi4p (a := s) (by omega), mi1 (n := k) (by omega), mi1p (b := k) (by omega), mi4 (a := k) (by omega), mi4p (a := k) (by omega), mi2 (a := s) (b := k) (by omega) (by omega), mi2p (a := s) (b := k) (by omega) (by omega), mi2 (a := k) (b := s) (by omega) (by omega), mi2p (a := k) (b := s) (by omega) (by omega), qg]
      try simp (disch := omega) only [if_neg]
      have eX1 : m_gu M s = (M', x2) := eX.symm
      rw [eX1] at h
      exact h
  refine zz_g ok rfl (by and_intros <;> first | exact True.intro | with_reducible exact v0 | with_reducible exact v1436 | with_reducible exact v1437 | with_reducible exact v1438 | with_reducible exact v1647 | with_reducible exact v1728 | with_reducible exact v1734 | with_reducible exact vi1 (by omega) (by decide) | with_reducible exact vi2 (by omega) (by decide) | with_reducible exact vi3 (by omega) (by decide) | with_reducible exact vi1p (by omega) (by decide) | with_reducible exact vi2p (by omega) (by decide) | with_reducible exact vi4 (by omega) (by decide) | with_reducible exact vi4p (by omega) (by decide) | trivial | exact vi0 (by decide) (by decide)) ?_
  refine zz_pm [3, 2, 1, 0] rfl ?_
  simp +decide only [z0, z1436, z1437, z1438, z1647, z1728, z1734, mi1 (n := s) (by omega), mi1p (b := s) (by omega), mi4 (a := s) (by omega), mi4p (a := s) (by omega)]
  exact lp14 6 0 (by omega) (by omega) _ _ _ rfl rfl
theorem sp_Mo_giveUp {G : zG} {post : Option zV → zM → Prop} {M : zM} {a : Int32} (hG : zz_go G) (h : post (some (.inl (m_giveUp M a).1)) (m_giveUp M a).2) : zz_T G md_Mo_giveUp [.inr (.inr (6, 0, 0)), .inl a] M post := by
  refine en_Mo_giveUp hG rfl (fun Z ok => ?_)
  refine zz_cS ok rfl trivial rfl lk_Mo_54 ca_Mo_isServer rfl rfl rfl (sp_Mo_isServer hG ?_)
  try simp +decide only [mi0, mi1 (n := s) (by omega)]
  refine zz_b ok rfl trivial rfl (fun h4 => ?_) (fun h4 => ?_)
  · skip
    try simp +decide only [mi0, mi1 (n := s) (by omega)] at h4 ⊢
    have h4 := wi_of h4
    refine zz_i ok rfl trivial rfl rfl ?_
    exact zz_pq h (by simp [m_giveUp, nsv, h4]) (by simp [m_giveUp, nsv, h4])
  · skip
    try simp +decide only [mi0, mi1 (n := s) (by omega)] at h4 ⊢
    have h4 := wi_nof h4
    obtain ⟨s, hs, rfl⟩ := ni_w (N := 4) (by decide) h4.1 h4.2
    refine zz_cV ok rfl trivial rfl lk_Mo_81 ca_Mo_hasIt rfl rfl rfl rfl rfl (sp_Mo_hasIt hG rfl hs ?_)
    try simp +decide only [mi0, mi1 (n := s) (by omega)]
    refine zz_b ok rfl trivial rfl (fun h16 => ?_) (fun h16 => ?_)
    · skip
      try simp +decide only [mi0, mi1 (n := s) (by omega)] at h16 ⊢
      simp only [zz_bi0, Bool.not_eq_false] at h16
      refine zz_i ok rfl trivial rfl rfl ?_
      exact zz_pq h (by simp [m_giveUp, nsv, zz_ixn (show s < 2147483648 by omega), mi1 (n := s) (by omega), h4, h16]) (by simp [m_giveUp, nsv, zz_ixn (show s < 2147483648 by omega), mi1 (n := s) (by omega), h4, h16])
    · skip
      try simp +decide only [mi0, mi1 (n := s) (by omega)] at h16 ⊢
      simp only [zz_bi0, Bool.not_eq_false] at h16
      refine zz_cV ok rfl trivial rfl lk_Mo_91 ca_Mo_givesUp rfl rfl rfl rfl rfl (sp_Mo_givesUp hG rfl hs ?_)
      try simp +decide only [mi0, mi1 (n := s) (by omega)]
      refine zz_i ok rfl trivial rfl rfl ?_
      exact zz_pq h (by simp [m_giveUp, nsv, zz_ixn (show s < 2147483648 by omega), mi1 (n := s) (by omega), h4, h16]) (by simp [m_giveUp, nsv, zz_ixn (show s < 2147483648 by omega), mi1 (n := s) (by omega), h4, h16])
theorem sp_Mo_copiesLog {G : zG} {post : Option zV → zM → Prop} {M : zM} {s v : Nat} {a b t dn : Int32} (hm : mw M) (hG : zz_go G) (ea : a = nI s) (hs : s < 5) (eb : b = nI v) (hv : v < 5) (hsv : ¬ s = v) (h : post none (m_cl M s v t dn)) : zz_T G md_Mo_copiesLog [.inr (.inr (6, 0, 0)), .inl a, .inl b, .inl t, .inl dn] M post := by
  refine en_Mo_copiesLog hG rfl (fun Z ok => ?_)
  subst ea; subst eb
  have hn := mw_len hm hs
  generalize en : mn M (51 + s) = n at hn
  have lp3 : ∀ (f k : Nat), 4 * n - k < f → k ≤ 4 * n → ∀ (x5 : Int32) (M' : zM), x5 = nI k → M' = zz_cpy M (20, 0, 0) (20, 0, 0) (476 + 160 * s) (476 + 160 * v) k → zz_W G Z md_Mo_copiesLog post 3 [(5, .inl x5), (4, .inl dn), (3, .inl t), (2, .inl (nI v)), (1, .inl (nI s)), (0, .inr (.inr (6, 0, 0)))] [] M' := by
    intro f
    induction f with
    | zero => intro k hf; exact absurd hf (Nat.not_lt_zero _)
    | succ f ih => ?_
    intro k hf hk x5 M' e5 eM
    subst e5
    have hL : ∀ i, i < 476 → M'.1 (20, 0, 0) i = M.1 (20, 0, 0) i := fun i hi => by rw [eM, qgc, if_neg (by omega)]
    refine zz_b ok rfl (by and_intros <;> first | exact True.intro | with_reducible exact v0 | with_reducible exact v1436 | with_reducible exact v1437 | with_reducible exact v1438 | with_reducible exact v1647 | with_reducible exact v1728 | with_reducible exact v1734 | with_reducible exact vi1 (by omega) (by decide) | with_reducible exact vi2 (by omega) (by decide) | with_reducible exact vi3 (by omega) (by decide) | with_reducible exact vi1p (by omega) (by decide) | with_reducible exact vi2p (by omega) (by decide) | with_reducible exact vi4 (by omega) (by decide) | with_reducible exact vi4p (by omega) (by decide) | trivial | exact vi0 (by decide) (by decide)) rfl (fun h16 => ?_) (fun h16 => ?_)
    · skip
      try simp +decide only [z0, z1436, z1437, z1438, z1647, z1728, z1734, mi1 (n := s) (by omega), mi1p (b := s) (by omega), mi4 (a := s) (by omega), mi4p (a := s) (by omega), mi1 (n := v) (by omega), mi1p (b := v) (by omega), mi4 (a := v) (by omega), mi4p (a := v) (by omega), mi1 (n := k) (by omega), mi1p (b := k) (by omega), mi4 (a := k) (by omega), mi4p (a := k) (by omega), mi2 (a := s) (b := v) (by omega) (by omega), mi2p (a := s) (b := v) (by omega) (by omega), mi2 (a := s) (b := k) (by omega) (by omega), mi2p (a := s) (b := k) (by omega) (by omega), mi2 (a := v) (b := s) (by omega) (by omega), mi2p (a := v) (b := s) (by omega) (by omega), mi2 (a := v) (b := k) (by omega) (by omega), mi2p (a := v) (b := k) (by omega) (by omega), mi2 (a := k) (b := s) (by omega) (by omega), mi2p (a := k) (b := s) (by omega) (by omega), mi2 (a := k) (b := v) (by omega) (by omega), mi2p (a := k) (b := v) (by omega) (by omega), qg] at h16 ⊢
      try simp (disch := omega) only [if_neg] at h16 ⊢
      rw [hL _ (by omega), hn.1, ni_lit, ni_mul, ni_ltn (by omega) (by omega)] at h16
      refine zz_g ok rfl (by and_intros <;> first | exact True.intro | with_reducible exact v0 | with_reducible exact v1436 | with_reducible exact v1437 | with_reducible exact v1438 | with_reducible exact v1647 | with_reducible exact v1728 | with_reducible exact v1734 | with_reducible exact vi1 (by omega) (by decide) | with_reducible exact vi2 (by omega) (by decide) | with_reducible exact vi3 (by omega) (by decide) | with_reducible exact vi1p (by omega) (by decide) | with_reducible exact vi2p (by omega) (by decide) | with_reducible exact vi4 (by omega) (by decide) | with_reducible exact vi4p (by omega) (by decide) | trivial | exact vi0 (by decide) (by decide)) ?_
      refine zz_pm [5, 4, 3, 2, 1, 0] rfl ?_
      exact ih (k + 1) (by omega) (by omega) _ _ (nI_1 k) (by simp +decide only [mi2 (a := s) (b := k) (by omega) (by omega), mi2 (a := v) (b := k) (by omega) (by omega)]; rw [← cpy_step (by intro _; omega), ← eM])
    · skip
      try simp +decide only [z0, z1436, z1437, z1438, z1647, z1728, z1734, mi1 (n := s) (by omega), mi1p (b := s) (by omega), mi4 (a := s) (by omega), mi4p (a := s) (by omega), mi1 (n := v) (by omega), mi1p (b := v) (by omega), mi4 (a := v) (by omega), mi4p (a := v) (by omega), mi1 (n := k) (by omega), mi1p (b := k) (by omega), mi4 (a := k) (by omega), mi4p (a := k) (by omega), mi2 (a := s) (b := v) (by omega) (by omega), mi2p (a := s) (b := v) (by omega) (by omega), mi2 (a := s) (b := k) (by omega) (by omega), mi2p (a := s) (b := k) (by omega) (by omega), mi2 (a := v) (b := s) (by omega) (by omega), mi2p (a := v) (b := s) (by omega) (by omega), mi2 (a := v) (b := k) (by omega) (by omega), mi2p (a := v) (b := k) (by omega) (by omega), mi2 (a := k) (b := s) (by omega) (by omega), mi2p (a := k) (b := s) (by omega) (by omega), mi2 (a := k) (b := v) (by omega) (by omega), mi2p (a := k) (b := v) (by omega) (by omega), qg] at h16 ⊢
      try simp (disch := omega) only [if_neg] at h16 ⊢
      rw [hL _ (by omega), hn.1, ni_lit, ni_mul, ni_ltn (by omega) (by omega)] at h16
      have hk4 : k = 4 * n := by omega
      refine zz_b ok rfl (by and_intros <;> first | exact True.intro | with_reducible exact v0 | with_reducible exact v1436 | with_reducible exact v1437 | with_reducible exact v1438 | with_reducible exact v1647 | with_reducible exact v1728 | with_reducible exact v1734 | with_reducible exact vi1 (by omega) (by decide) | with_reducible exact vi2 (by omega) (by decide) | with_reducible exact vi3 (by omega) (by decide) | with_reducible exact vi1p (by omega) (by decide) | with_reducible exact vi2p (by omega) (by decide) | with_reducible exact vi4 (by omega) (by decide) | with_reducible exact vi4p (by omega) (by decide) | trivial | exact vi0 (by decide) (by decide)) rfl (fun h106 => ?_) (fun h106 => ?_)
      · skip
        try simp +decide only [z0, z1436, z1437, z1438, z1647, z1728, z1734, mi1 (n := s) (by omega), mi1p (b := s) (by omega), mi4 (a := s) (by omega), mi4p (a := s) (by omega), mi1 (n := v) (by omega), mi1p (b := v) (by omega), mi4 (a := v) (by omega), mi4p (a := v) (by omega), mi1 (n := k) (by omega), mi1p (b := k) (by omega), mi4 (a := k) (by omega), mi4p (a := k) (by omega), mi2 (a := s) (b := v) (by omega) (by omega), mi2p (a := s) (b := v) (by omega) (by omega), mi2 (a := s) (b := k) (by omega) (by omega), mi2p (a := s) (b := k) (by omega) (by omega), mi2 (a := v) (b := s) (by omega) (by omega), mi2p (a := v) (b := s) (by omega) (by omega), mi2 (a := v) (b := k) (by omega) (by omega), mi2p (a := v) (b := k) (by omega) (by omega), mi2 (a := k) (b := s) (by omega) (by omega), mi2p (a := k) (b := s) (by omega) (by omega), mi2 (a := k) (b := v) (by omega) (by omega), mi2p (a := k) (b := v) (by omega) (by omega), qg] at h106 ⊢
        try simp (disch := omega) only [if_neg] at h106 ⊢
        rw [hL _ (by omega)] at h106
        refine zz_v ok rfl (by and_intros <;> first | exact True.intro | with_reducible exact v0 | with_reducible exact v1436 | with_reducible exact v1437 | with_reducible exact v1438 | with_reducible exact v1647 | with_reducible exact v1728 | with_reducible exact v1734 | with_reducible exact vi1 (by omega) (by decide) | with_reducible exact vi2 (by omega) (by decide) | with_reducible exact vi3 (by omega) (by decide) | with_reducible exact vi1p (by omega) (by decide) | with_reducible exact vi2p (by omega) (by decide) | with_reducible exact vi4 (by omega) (by decide) | with_reducible exact vi4p (by omega) (by decide) | trivial | exact vi0 (by decide) (by decide)) rfl rfl ?_
        simp +decide only [z0, z1436, z1437, z1438, z1647, z1728, z1734, mi1 (n := s) (by omega), mi1p (b := s) (by omega), mi4 (a := s) (by omega), mi4p (a := s) (by omega), mi1 (n := v) (by omega), mi1p (b := v) (by omega), mi4 (a := v) (by omega), mi4p (a := v) (by omega), mi2 (a := s) (b := v) (by omega) (by omega), mi2p (a := s) (b := v) (by omega) (by omega), mi2 (a := v) (b := s) (by omega) (by omega), mi2p (a := v) (b := s) (by omega) (by omega), qg]
        simp (disch := omega) only [if_neg, hL, hn.1]
        exact zz_pq h rfl (by unfold m_cl; rw [en, ← hk4, ← eM, mx, if_pos h106])
      · skip
        try simp +decide only [z0, z1436, z1437, z1438, z1647, z1728, z1734, mi1 (n := s) (by omega), mi1p (b := s) (by omega), mi4 (a := s) (by omega), mi4p (a := s) (by omega), mi1 (n := v) (by omega), mi1p (b := v) (by omega), mi4 (a := v) (by omega), mi4p (a := v) (by omega), mi1 (n := k) (by omega), mi1p (b := k) (by omega), mi4 (a := k) (by omega), mi4p (a := k) (by omega), mi2 (a := s) (b := v) (by omega) (by omega), mi2p (a := s) (b := v) (by omega) (by omega), mi2 (a := s) (b := k) (by omega) (by omega), mi2p (a := s) (b := k) (by omega) (by omega), mi2 (a := v) (b := s) (by omega) (by omega), mi2p (a := v) (b := s) (by omega) (by omega), mi2 (a := v) (b := k) (by omega) (by omega), mi2p (a := v) (b := k) (by omega) (by omega), mi2 (a := k) (b := s) (by omega) (by omega), mi2p (a := k) (b := s) (by omega) (by omega), mi2 (a := k) (b := v) (by omega) (by omega), mi2p (a := k) (b := v) (by omega) (by omega), qg] at h106 ⊢
        try simp (disch := omega) only [if_neg] at h106 ⊢
        rw [hL _ (by omega)] at h106
        refine zz_v ok rfl (by and_intros <;> first | exact True.intro | with_reducible exact v0 | with_reducible exact v1436 | with_reducible exact v1437 | with_reducible exact v1438 | with_reducible exact v1647 | with_reducible exact v1728 | with_reducible exact v1734 | with_reducible exact vi1 (by omega) (by decide) | with_reducible exact vi2 (by omega) (by decide) | with_reducible exact vi3 (by omega) (by decide) | with_reducible exact vi1p (by omega) (by decide) | with_reducible exact vi2p (by omega) (by decide) | with_reducible exact vi4 (by omega) (by decide) | with_reducible exact vi4p (by omega) (by decide) | trivial | exact vi0 (by decide) (by decide)) rfl rfl ?_
        simp +decide only [z0, z1436, z1437, z1438, z1647, z1728, z1734, mi1 (n := s) (by omega), mi1p (b := s) (by omega), mi4 (a := s) (by omega), mi4p (a := s) (by omega), mi1 (n := v) (by omega), mi1p (b := v) (by omega), mi4 (a := v) (by omega), mi4p (a := v) (by omega), mi2 (a := s) (b := v) (by omega) (by omega), mi2p (a := s) (b := v) (by omega) (by omega), mi2 (a := v) (b := s) (by omega) (by omega), mi2p (a := v) (b := s) (by omega) (by omega), qg]
        simp (disch := omega) only [if_neg, hL, hn.1]
        exact zz_pq h rfl (by unfold m_cl; rw [en, ← hk4, ← eM, mx, if_neg h106])
  refine zz_g ok rfl trivial ?_
  refine zz_pm [5, 4, 3, 2, 1, 0] rfl ?_
  exact lp3 (4 * n + 1) 0 (by omega) (by omega) _ _ rfl (cpy0 _ _ _ _ _).symm
theorem sp_Mo_remembers {G : zG} {post : Option zV → zM → Prop} {M : zM} {s : Nat} {a : Int32} (hm : mw M) (hG : zz_go G) (ea : a = nI s) (hs : s < 5) (h : post none (m_rm M s)) : zz_T G md_Mo_remembers [.inr (.inr (6, 0, 0)), .inl a] M post := by
  refine en_Mo_remembers hG rfl (fun Z ok => ?_)
  subst ea
  have hh := mw_hist hm
  have hc := mw_done hm hs
  generalize eh : mn M 1436 = H at hh
  generalize ec : mn M (56 + s) = c at hc
  have lp9 : ∀ (f k : Nat), (c - H) - k < f → k ≤ c - H → ∀ (x2 : Int32) (M' : zM), x2 = nI (H + k) → M' = zz_cpy M (20, 0, 0) (20, 0, 0) (476 + 160 * s + 4 * H) (1276 + 4 * H) (4 * k) → zz_W G Z md_Mo_remembers post 9 [(2, .inl x2), (1, .inl (nI s)), (0, .inr (.inr (6, 0, 0)))] [] M' := by
    intro f
    induction f with
    | zero => intro k hf; exact absurd hf (Nat.not_lt_zero _)
    | succ f ih => ?_
    intro k hf hk x2 M' e2 eM
    subst e2
    have hL : ∀ i, i < 476 ∨ i = 1436 → M'.1 (20, 0, 0) i = M.1 (20, 0, 0) i := fun i hi => by rw [eM, qgc, if_neg (by omega)]
    refine zz_b ok rfl (by and_intros <;> first | exact True.intro | with_reducible exact v0 | with_reducible exact v1436 | with_reducible exact v1437 | with_reducible exact v1438 | with_reducible exact v1647 | with_reducible exact v1728 | with_reducible exact v1734 | with_reducible exact vi1 (by omega) (by decide) | with_reducible exact vi2 (by omega) (by decide) | with_reducible exact vi3 (by omega) (by decide) | with_reducible exact vi1p (by omega) (by decide) | with_reducible exact vi2p (by omega) (by decide) | with_reducible exact vi4 (by omega) (by decide) | with_reducible exact vi4p (by omega) (by decide) | trivial | exact vi0 (by decide) (by decide)) rfl (fun h19 => ?_) (fun h19 => ?_)
    · skip
      try simp +decide only [z0, z1436, z1437, z1438, z1647, z1728, z1734, mi1 (n := s) (by omega), mi1p (b := s) (by omega), mi4 (a := s) (by omega), mi4p (a := s) (by omega), qg] at h19 ⊢
      try simp (disch := omega) only [if_neg] at h19 ⊢
      rw [hL _ (by omega), hc.1, ni_ltn (by omega) (by omega)] at h19
      have lp24 : ∀ (g j : Nat), 4 - j < g → j ≤ 4 → ∀ (x3 : Int32) (B : zM), x3 = nI j → B = zz_cpy M (20, 0, 0) (20, 0, 0) (476 + 160 * s + 4 * H) (1276 + 4 * H) (4 * k + j) → zz_W G Z md_Mo_remembers post 24 [(3, .inl x3), (2, .inl (nI (H + k))), (1, .inl (nI s)), (0, .inr (.inr (6, 0, 0)))] [] B := by
        intro g
        induction g with
        | zero => intro j hg; exact absurd hg (Nat.not_lt_zero _)
        | succ g ih2 => ?_
        intro j hg hj x3 B e3 eB
        subst e3
        refine zz_b ok rfl trivial rfl (fun h26 => ?_) (fun h26 => ?_)
        · skip
          try simp +decide only [z0, z1436, z1437, z1438, z1647, z1728, z1734, mi1 (n := s) (by omega), mi1p (b := s) (by omega), mi4 (a := s) (by omega), mi4p (a := s) (by omega), qg] at h26 ⊢
          try simp (disch := omega) only [if_neg] at h26 ⊢
          rw [ni_lit, ni_ltn (by omega) (by decide)] at h26
          refine zz_cV ok rfl trivial rfl lk_Mo_47 ca_Mo_part rfl rfl rfl rfl rfl (sp_Mo_part (i := H + k) (w := j) hG rfl hs rfl (by omega) rfl (by omega) ?_)
          try simp +decide only [z0, z1436, z1437, z1438, z1647, z1728, z1734, mi1 (n := s) (by omega), mi1p (b := s) (by omega), mi4 (a := s) (by omega), mi4p (a := s) (by omega), qg]
          try simp (disch := omega) only [if_neg]
          refine zz_g ok rfl (by and_intros <;> first | exact True.intro | with_reducible exact v0 | with_reducible exact v1436 | with_reducible exact v1437 | with_reducible exact v1438 | with_reducible exact v1647 | with_reducible exact v1728 | with_reducible exact v1734 | with_reducible exact vi1 (by omega) (by decide) | with_reducible exact vi2 (by omega) (by decide) | with_reducible exact vi3 (by omega) (by decide) | with_reducible exact vi1p (by omega) (by decide) | with_reducible exact vi2p (by omega) (by decide) | with_reducible exact vi4 (by omega) (by decide) | with_reducible exact vi4p (by omega) (by decide) | trivial | exact vi0 (by decide) (by decide)) ?_
          refine zz_pm [3, 2, 1, 0] rfl ?_
          exact ih2 (j + 1) (by omega) (by omega) _ _ (nI_1 j) (by
            simp +decide only [mi2 (a := H + k) (b := j) (by omega) (by omega)]
            unfold m_pt q
            rw [show 4 * k + (j + 1) = (4 * k + j) + 1 by omega, ← cpy_step (by intro _; omega), ← eB, show 1276 + 4 * (H + k) + j = 1276 + 4 * H + (4 * k + j) by omega, show 476 + 4 * (40 * s + (H + k)) + j = 476 + 160 * s + 4 * H + (4 * k + j) by omega])
        · skip
          try simp +decide only [z0, z1436, z1437, z1438, z1647, z1728, z1734, mi1 (n := s) (by omega), mi1p (b := s) (by omega), mi4 (a := s) (by omega), mi4p (a := s) (by omega), qg] at h26 ⊢
          try simp (disch := omega) only [if_neg] at h26 ⊢
          rw [ni_lit, ni_ltn (by omega) (by decide)] at h26
          have hj4 : j = 4 := by omega
          subst hj4
          refine zz_g ok rfl trivial ?_
          refine zz_pm [2, 1, 0] rfl ?_
          exact ih (k + 1) (by omega) (by omega) _ _ (by rw [nI_1]; congr 1) (by rw [eB, show 4 * (k + 1) = 4 * k + 4 by omega])
      refine zz_g ok rfl trivial ?_
      refine zz_pm [3, 2, 1, 0] rfl ?_
      exact lp24 5 0 (by omega) (by omega) _ _ rfl eM
    · skip
      try simp +decide only [z0, z1436, z1437, z1438, z1647, z1728, z1734, mi1 (n := s) (by omega), mi1p (b := s) (by omega), mi4 (a := s) (by omega), mi4p (a := s) (by omega), qg] at h19 ⊢
      try simp (disch := omega) only [if_neg] at h19 ⊢
      rw [hL _ (by omega), hc.1, ni_ltn (by omega) (by omega)] at h19
      have hkc : k = c - H := by omega
      refine zz_b ok rfl (by and_intros <;> first | exact True.intro | with_reducible exact v0 | with_reducible exact v1436 | with_reducible exact v1437 | with_reducible exact v1438 | with_reducible exact v1647 | with_reducible exact v1728 | with_reducible exact v1734 | with_reducible exact vi1 (by omega) (by decide) | with_reducible exact vi2 (by omega) (by decide) | with_reducible exact vi3 (by omega) (by decide) | with_reducible exact vi1p (by omega) (by decide) | with_reducible exact vi2p (by omega) (by decide) | with_reducible exact vi4 (by omega) (by decide) | with_reducible exact vi4p (by omega) (by decide) | trivial | exact vi0 (by decide) (by decide)) rfl (fun h86 => ?_) (fun h86 => ?_)
      · skip
        try simp +decide only [z0, z1436, z1437, z1438, z1647, z1728, z1734, mi1 (n := s) (by omega), mi1p (b := s) (by omega), mi4 (a := s) (by omega), mi4p (a := s) (by omega), qg] at h86 ⊢
        try simp (disch := omega) only [if_neg] at h86 ⊢
        rw [hL _ (by omega), hL _ (by omega), hc.1, hh.1, ni_ltn (by omega) (by omega)] at h86
        refine zz_v ok rfl (by and_intros <;> first | exact True.intro | with_reducible exact v0 | with_reducible exact v1436 | with_reducible exact v1437 | with_reducible exact v1438 | with_reducible exact v1647 | with_reducible exact v1728 | with_reducible exact v1734 | with_reducible exact vi1 (by omega) (by decide) | with_reducible exact vi2 (by omega) (by decide) | with_reducible exact vi3 (by omega) (by decide) | with_reducible exact vi1p (by omega) (by decide) | with_reducible exact vi2p (by omega) (by decide) | with_reducible exact vi4 (by omega) (by decide) | with_reducible exact vi4p (by omega) (by decide) | trivial | exact vi0 (by decide) (by decide)) rfl rfl ?_
        simp +decide only [z0, z1436, z1437, z1438, z1647, z1728, z1734, mi1 (n := s) (by omega), mi1p (b := s) (by omega), mi4 (a := s) (by omega), mi4p (a := s) (by omega)]
        rw [hL _ (by omega)]
        exact zz_pq h rfl (by unfold m_rm; rw [eh, ec, ← hkc, ← eM]; (first | rw [hc.1] | rw [hh.1]); congr 2; omega)
      · skip
        try simp +decide only [z0, z1436, z1437, z1438, z1647, z1728, z1734, mi1 (n := s) (by omega), mi1p (b := s) (by omega), mi4 (a := s) (by omega), mi4p (a := s) (by omega), qg] at h86 ⊢
        try simp (disch := omega) only [if_neg] at h86 ⊢
        rw [hL _ (by omega), hL _ (by omega), hc.1, hh.1, ni_ltn (by omega) (by omega)] at h86
        refine zz_v ok rfl (by and_intros <;> first | exact True.intro | with_reducible exact v0 | with_reducible exact v1436 | with_reducible exact v1437 | with_reducible exact v1438 | with_reducible exact v1647 | with_reducible exact v1728 | with_reducible exact v1734 | with_reducible exact vi1 (by omega) (by decide) | with_reducible exact vi2 (by omega) (by decide) | with_reducible exact vi3 (by omega) (by decide) | with_reducible exact vi1p (by omega) (by decide) | with_reducible exact vi2p (by omega) (by decide) | with_reducible exact vi4 (by omega) (by decide) | with_reducible exact vi4p (by omega) (by decide) | trivial | exact vi0 (by decide) (by decide)) rfl rfl ?_
        simp +decide only [z0, z1436, z1437, z1438, z1647, z1728, z1734, mi1 (n := s) (by omega), mi1p (b := s) (by omega), mi4 (a := s) (by omega), mi4p (a := s) (by omega)]
        rw [hL _ (by omega)]
        exact zz_pq h rfl (by unfold m_rm; rw [eh, ec, ← hkc, ← eM]; (first | rw [hc.1] | rw [hh.1]); congr 2; omega)
  refine zz_g ok rfl (by and_intros <;> first | exact True.intro | with_reducible exact v0 | with_reducible exact v1436 | with_reducible exact v1437 | with_reducible exact v1438 | with_reducible exact v1647 | with_reducible exact v1728 | with_reducible exact v1734 | with_reducible exact vi1 (by omega) (by decide) | with_reducible exact vi2 (by omega) (by decide) | with_reducible exact vi3 (by omega) (by decide) | with_reducible exact vi1p (by omega) (by decide) | with_reducible exact vi2p (by omega) (by decide) | with_reducible exact vi4 (by omega) (by decide) | with_reducible exact vi4p (by omega) (by decide) | trivial | exact vi0 (by decide) (by decide)) ?_
  refine zz_pm [2, 1, 0] rfl ?_
  simp only [z1436]
  rw [hh.1]
  exact lp9 (c + 1) 0 (by omega) (by omega) _ _ rfl (cpy0 _ _ _ _ _).symm
