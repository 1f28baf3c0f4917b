theorem mi5 {a b : Nat} (ha : a < 1000) (hb : b < 10000) (c d e : Nat) (hc : c ≤ 100000) (hd : d ≤ 100) (he : e ≤ 100) : zz_ix (OfNat.ofNat c + OfNat.ofNat d * (OfNat.ofNat e * nI a + nI b)) = OfNat.ofNat c + OfNat.ofNat d * (OfNat.ofNat e * a + b) := by
  have h1 : e * a ≤ 100 * 1000 := Nat.mul_le_mul he (by omega)
  have h2 : d * (e * a + b) ≤ 100 * 110000 := Nat.mul_le_mul hd (by omega)
  rw [ni_lit, ni_lit, ni_lit, ni_mul, nI_add, ni_mul, nI_add]; exact zz_ixn (n := c + d * (e * a + b)) (by omega)
theorem mi5p {a b : Nat} (ha : a < 1000) (hb : b < 10000) (c d e f : Nat) (hc : c ≤ 100000) (hd : d ≤ 100) (he : e ≤ 100) (hf : f ≤ 100) : zz_ix (OfNat.ofNat c + OfNat.ofNat d * (OfNat.ofNat e * nI a + nI b) + OfNat.ofNat f) = OfNat.ofNat c + OfNat.ofNat d * (OfNat.ofNat e * a + b) + OfNat.ofNat f := by
  have h1 : e * a ≤ 100 * 1000 := Nat.mul_le_mul he (by omega)
  have h2 : d * (e * a + b) ≤ 100 * 110000 := Nat.mul_le_mul hd (by omega)
  rw [ni_lit, ni_lit, ni_lit, ni_lit, ni_mul, nI_add, ni_mul, nI_add, nI_add]; exact zz_ixn (n := c + d * (e * a + b) + f) (by omega)
theorem vi5 {c d e a b N : Nat} (h : OfNat.ofNat c + OfNat.ofNat d * (OfNat.ofNat e * a + b) < N) (hN : N ≤ 100000) : vp_in (OfNat.ofNat c + OfNat.ofNat d * (OfNat.ofNat e * nI a + nI b)) N := by
  rw [ni_lit, ni_lit, ni_lit, ni_mul, nI_add, ni_mul, nI_add]; exact ni_in h hN
theorem vi5p {c d e f a b N : Nat} (h : OfNat.ofNat c + OfNat.ofNat d * (OfNat.ofNat e * a + b) + OfNat.ofNat f < N) (hN : N ≤ 100000) : vp_in (OfNat.ofNat c + OfNat.ofNat d * (OfNat.ofNat e * nI a + nI b) + OfNat.ofNat f) N := by
  rw [ni_lit, ni_lit, ni_lit, ni_lit, ni_mul, nI_add, ni_mul, nI_add, nI_add]; exact ni_in h hN
def mdl (M : zM) : Prop := ∀ s, s < 5 → mn M (71 + s) ≤ mn M (51 + s)
def m_writes (M : zM) (a k v : Int32) : Int32 × zM := if nsv a then (-1001, M) else m_wr M (zz_ix a) k v
theorem m_cl_q {M : zM} {s v j : Nat} {t d : Int32} (hv : v < 5) (hn : mn M (51 + s) ≤ 40) (h : j < 36 ∨ (61 ≤ j ∧ j < 476) ∨ 1276 ≤ j) : (m_cl M s v t d).1 (20, 0, 0) j = M.1 (20, 0, 0) j := by
  unfold m_cl; rw [qg, if_neg (by omega), qg, if_neg (by omega), qg, if_neg (by omega), qgc, if_neg (by omega)]
theorem m_rm_q {M : zM} {s j : Nat} (hs : s < 5) (hm : mw M) (h : j < 1276 ∨ 1437 ≤ j) : (m_rm M s).1 (20, 0, 0) j = M.1 (20, 0, 0) j := by
  have h1 := mw_hist hm
  have h2 := mw_done hm hs
  unfold m_rm; rw [qg, if_neg (by omega), qgc, if_neg (by omega)]
theorem m_w1_mw {s v : Nat} {t : Int32} {X : zM × Int32} (hs : s < 5) (hv : v < 5) (h : mw X.1) : mw (m_w1 s t v X).1 := by
  unfold m_w1
  split
  · exact m_cl_mw hs hv (mw_done h hs).1 (mw_done h hs).2 h
  · exact h
theorem m_w0_mw {M : zM} {s : Nat} {key val : Int32} (hs : s < 5) (hn : mn M (51 + s) < 40) (h : mw M) : mw (m_w0 M s key val) := by
  unfold m_w0
  refine mw_sz ?_ (mw_set ?_ (mw_set ?_ (mw_set ?_ (mw_set ?_ h))))
  · unfold mwb; rw [if_neg (by omega), if_neg (by omega)]; omega
  · unfold mwi; omega
  · unfold mwi; omega
  · unfold mwi; omega
  · unfold mwi; omega
theorem m_wX_mw {s : Nat} {t : Int32} (hs : s < 5) : ∀ (k : Nat) (X : zM × Int32), k ≤ 5 → mw X.1 → mw (zz_it (m_w1 s t) k X).1 :=
  m_it2_mw (N := 5) (fun k X hk h => m_w1_mw hs hk h)
theorem m_w1_q {s v j : Nat} {t : Int32} {X : zM × Int32} (hs : s < 5) (hv : v < 5) (hm : mw X.1) (h : j < 36 ∨ (61 ≤ j ∧ j < 476) ∨ 1276 ≤ j) : (m_w1 s t v X).1.1 (20, 0, 0) j = X.1.1 (20, 0, 0) j := by
  unfold m_w1; split
  · exact m_cl_q hv (mw_len hm hs).2 h
  · rfl
theorem m_w1_l {s v : Nat} {t : Int32} {X : zM × Int32} (hs : s < 5) (hv : v < 5) (hm : mw X.1) : (m_w1 s t v X).1.1 (20, 0, 0) (51 + s) = X.1.1 (20, 0, 0) (51 + s) := by
  have hn := (mw_len hm hs).2
  unfold m_w1; split
  · next h => unfold m_cl; rw [qg, if_neg (by omega), qg, if_neg (by omega), qg, if_neg (by omega), qgc, if_neg (by omega)]
  · rfl
theorem m_w2_mw {A : zM} {s : Nat} (hs : s < 5) (h : mw A) : mw (qs A (56 + s) (q A (51 + s))) := by
  have h1 := mw_len h hs
  unfold q; rw [h1.1]
  refine mw_sz ?_ h
  unfold mwb; rw [if_neg (by omega), if_neg (by omega)]; exact h1.2
theorem m_w2_q {A : zM} {s j : Nat} (hs : s < 5) (hm : mw A) (h : j < 56 ∨ (61 ≤ j ∧ j < 1276) ∨ 1437 ≤ j) : (m_w2 A s).1 (20, 0, 0) j = A.1 (20, 0, 0) j := by
  unfold m_w2; rw [m_rm_q hs (m_w2_mw hs hm) (by omega), qg, if_neg (by omega)]
def m_reason (M : zM) (a : Int32) : Int32 := if nsv a then -1001 else if q M 1734 = 1 then q M (1729 + zz_ix a) else -1000
def m_holds (M : zM) (a : Int32) : Int32 := if nsv a then -1001 else if m_ha M (zz_ix a) = true then 1 else 0
def m_known (M : zM) (a w : Int32) : Int32 := if nsv a then -1001 else if w = 0 then q M (36 + zz_ix a) else if w = 1 then q M (41 + zz_ix a) else if w = 2 then (if q M (41 + zz_ix a) = -1000 then -1000 else q M (46 + zz_ix a)) else if w = 3 then (if q M (61 + zz_ix a) = 0 then -1000 else q M (61 + zz_ix a)) else if w = 4 then (if q M (61 + zz_ix a) = 0 then -1000 else q M (66 + zz_ix a)) else -1001
def m_lv (M : zM) (s : Nat) (key time : Int32) : Nat → Int32
  | 0 => -1000
  | k + 1 => if m_pt M s k 1 = key ∧ ¬ time < m_pt M s k 3 then m_pt M s k 2 else m_lv M s key time k
def m_read (M : zM) (a k : Int32) : Int32 := if nsv a ∨ k < 0 ∨ 7 < k then -1001 else if m_ha M (zz_ix a) = false ∨ q M (56 + zz_ix a) = 0 ∨ ¬ m_pt M (zz_ix a) (mn M (56 + zz_ix a) - 1) 0 = q M (61 + zz_ix a) then -1002 else m_lv M (zz_ix a) k 2000000000 (mn M (56 + zz_ix a))
def m_readAt (M : zM) (a k t : Int32) : Int32 := if nsv a ∨ (k < 0 ∨ 7 < k) ∨ t < 0 then -1001 else if m_ru M (zz_ix a) = false ∨ q M (56 + zz_ix a) = 0 ∨ m_pt M (zz_ix a) (mn M (56 + zz_ix a) - 1) 3 < t then -1002 else m_lv M (zz_ix a) k t (mn M (56 + zz_ix a))
def m_log (M : zM) (a w : Int32) : Int32 := if nsv a then -1001 else if w = 0 then q M (51 + zz_ix a) else if w = 1 then q M (56 + zz_ix a) else if w = 2 then m_lt M (zz_ix a) else if w = 3 then (if q M (56 + zz_ix a) = 0 then -1000 else m_pt M (zz_ix a) (mn M (56 + zz_ix a) - 1) 3) else if w = 4 then q M (71 + zz_ix a) else -1001
def m_entry (M : zM) (a i w : Int32) : Int32 := if nsv a ∨ (i < 0 ∨ q M (51 + zz_ix a) - 1 < i) ∨ (w < 0 ∨ 3 < w) then -1001 else m_pt M (zz_ix a) (zz_ix i) (zz_ix w)
theorem m_pt4 (M : zM) (s k : Nat) : m_pt M s (k / 4) (k % 4) = q M (476 + 160 * s + k) := by
  unfold m_pt; congr 1; omega
def m_agreement (M : zM) (a b : Int32) : Int32 := if nsv a ∨ nsv b then -1001 else nI (zz_ff (fun k => !(q M (476 + 160 * zz_ix a + k) == q M (476 + 160 * zz_ix b + k))) (4 * min (mn M (51 + zz_ix a)) (mn M (51 + zz_ix b))) 0 / 4)
def m_hv (M : zM) (key : Int32) : Nat → Nat → Int32 → Int32
  | 0, _, _ => -1000
  | f + 1, i, left => if q M (1276 + 4 * i + 1) = key then (if left = 0 then q M (1276 + 4 * i + 2) else m_hv M key f (i + 1) (left - 1)) else m_hv M key f (i + 1) left
def m_history (M : zM) (k i : Int32) : Int32 := if (k < 0 ∨ 7 < k) ∨ i < 0 then -1001 else m_hv M k (mn M 1436) 0 i
def m_ack (M : zM) (i w : Int32) : Int32 := if i < 0 ∨ (w < 0 ∨ 3 < w) then -1001 else if i < q M 1437 then q M (1439 + 4 * zz_ix i + zz_ix w) else -1000
def m_send (M : zM) (a c v : Int32) : Int32 × zM := if nsv a ∨ (c < 0 ∨ 3 < c) ∨ (v < 0 ∨ 999 < v) then (-1001, M) else if m_ha M (zz_ix a) = false then (-1002, M) else if q M 1647 = 20 then (-1003, M) else
  (q M 1647, qs (qs (qs (qs (qs M (1648 + 4 * mn M 1647) (q M (61 + zz_ix a))) (1648 + 4 * mn M 1647 + 1) c) (1648 + 4 * mn M 1647 + 2) v) (1648 + 4 * mn M 1647 + 3) 0) 1647 (q M 1647 + 1))
def mcl (M : zM) : Prop := ∀ k, k < mn M 1647 → ∃ c : Nat, c < 4 ∧ q M (1648 + 4 * k + 1) = nI c
def m_dv (M : zM) (k c : Nat) : Int32 × zM := if q M (1648 + 4 * k) < q M (1639 + 2 * c + 1) then (0, qs (qs M (1648 + 4 * k + 3) 1) 1728 (q M 1728 + 1)) else (1, qs (qs (qs M (1648 + 4 * k + 3) 1) (1639 + 2 * c) (q M (1648 + 4 * k + 2))) (1639 + 2 * c + 1) (q M (1648 + 4 * k)))
def m_deliver (M : zM) (k : Int32) : Int32 × zM := if k < 0 ∨ q M 1647 - 1 < k then (-1001, M) else if q M (1648 + 4 * zz_ix k + 3) = 1 then (-1002, M) else m_dv M (zz_ix k) (mn M (1648 + 4 * zz_ix k + 1))
def m_cell (M : zM) (c w : Int32) : Int32 := if (c < 0 ∨ 3 < c) ∨ (w < 0 ∨ 1 < w) then -1001 else q M (1639 + 2 * zz_ix c + zz_ix w)
def m_safeFor (M : zM) (a : Int32) : Int32 := if nsv a then -1001 else if m_ha M (zz_ix a) = true then q M (66 + zz_ix a) - m_la M (zz_ix a) else 0
theorem sp_Mo_writes {G : zG} {post : Option zV → zM → Prop} {M : zM} {a k v : Int32} (hm : mw M) (hd : mdl M) (hG : zz_go G) (h : post (some (.inl (m_writes M a k v).1)) (m_writes M a k v).2) : zz_T G md_Mo_writes [.inr (.inr (6, 0, 0)), .inl a, .inl k, .inl v] M post := by
  refine en_Mo_writes hG rfl (fun Z ok => ?_)
  refine zz_cS ok rfl trivial rfl lk_Mo_54 ca_Mo_isServer rfl rfl rfl (sp_Mo_isServer hG ?_)
  try simp +decide only [z0, z1436, z1437, z1438, z1647, z1728, z1734, mi1 (n := s) (by omega), mi1p (b := s) (by omega), mi4 (a := s) (by omega), mi4p (a := s) (by omega), qg]
  try simp (disch := omega) only [if_neg]
  refine zz_b ok rfl trivial rfl (fun h4 => ?_) (fun h4 => ?_)
  · skip
    try simp +decide only [z0, z1436, z1437, z1438, z1647, z1728, z1734, mi1 (n := s) (by omega), mi1p (b := s) (by omega), mi4 (a := s) (by omega), mi4p (a := s) (by omega), qg] at h4 ⊢
    try simp (disch := omega) only [if_neg] at h4 ⊢
    have h4 := wi_of h4
    refine zz_i ok rfl trivial rfl rfl ?_
    exact zz_pq h (by simp [m_writes, nsv, m_wr, h4]) (by simp [m_writes, nsv, m_wr, h4])
  · skip
    try simp +decide only [z0, z1436, z1437, z1438, z1647, z1728, z1734, mi1 (n := s) (by omega), mi1p (b := s) (by omega), mi4 (a := s) (by omega), mi4p (a := s) (by omega), qg] at h4 ⊢
    try simp (disch := omega) only [if_neg] at h4 ⊢
    have h4 := wi_nof h4
    obtain ⟨s, hs, rfl⟩ := ni_w (N := 4) (by decide) h4.1 h4.2
    refine zz_cV ok rfl trivial rfl lk_Mo_81 ca_Mo_hasIt rfl rfl rfl rfl rfl (sp_Mo_hasIt hG rfl hs ?_)
    try simp +decide only [z0, z1436, z1437, z1438, z1647, z1728, z1734, mi1 (n := s) (by omega), mi1p (b := s) (by omega), mi4 (a := s) (by omega), mi4p (a := s) (by omega), qg]
    try simp (disch := omega) only [if_neg]
    refine zz_b ok rfl trivial rfl (fun h16 => ?_) (fun h16 => ?_)
    · skip
      try simp +decide only [z0, z1436, z1437, z1438, z1647, z1728, z1734, mi1 (n := s) (by omega), mi1p (b := s) (by omega), mi4 (a := s) (by omega), mi4p (a := s) (by omega), qg] at h16 ⊢
      try simp (disch := omega) only [if_neg] at h16 ⊢
      simp only [zz_bi0, Bool.not_eq_false] at h16
      refine zz_i ok rfl trivial rfl rfl ?_
      exact zz_pq h (by simp [m_writes, nsv, zz_ixn (show s < 2147483648 by omega), mi1 (n := s) (by omega), m_wr, h4, h16]) (by simp [m_writes, nsv, zz_ixn (show s < 2147483648 by omega), mi1 (n := s) (by omega), m_wr, h4, h16])
    · skip
      try simp +decide only [z0, z1436, z1437, z1438, z1647, z1728, z1734, mi1 (n := s) (by omega), mi1p (b := s) (by omega), mi4 (a := s) (by omega), mi4p (a := s) (by omega), qg] at h16 ⊢
      try simp (disch := omega) only [if_neg] at h16 ⊢
      simp only [zz_bi0, Bool.not_eq_false] at h16
      refine zz_b ok rfl (by and_intros <;> first | exact True.intro | with_reducible exact v0 | with_reducible exact v1436 | with_reducible exact v1437 | with_reducible exact v1438 | with_reducible exact v1647 | with_reducible exact v1728 | with_reducible exact v1734 | with_reducible exact vi1 (by omega) (by decide) | with_reducible exact vi2 (by omega) (by decide) | with_reducible exact vi3 (by omega) (by decide) | with_reducible exact vi1p (by omega) (by decide) | with_reducible exact vi2p (by omega) (by decide) | with_reducible exact vi4 (by omega) (by decide) | with_reducible exact vi4p (by omega) (by decide) | with_reducible exact vi5 (by omega) (by decide) | with_reducible exact vi5p (by omega) (by decide) | trivial | exact vi0 (by decide) (by decide)) rfl (fun h38 => ?_) (fun h38 => ?_)
      · skip
        try simp +decide only [z0, z1436, z1437, z1438, z1647, z1728, z1734, mi1 (n := s) (by omega), mi1p (b := s) (by omega), mi4 (a := s) (by omega), mi4p (a := s) (by omega), qg] at h38 ⊢
        try simp (disch := omega) only [if_neg] at h38 ⊢
        skip
        refine zz_i ok rfl trivial rfl rfl ?_
        have hn := mw_len hm hs
        have hn40 : mn M (51 + s) = 40 := by
          rw [hn.1, ni_lit, ni_eqn (by omega) (by omega)] at h38; exact h38
        exact zz_pq h (by simp [m_writes, nsv, h4, h16, m_wr, hn40, zz_ixn (show s < 2147483648 by omega)]) (by simp [m_writes, nsv, h4, h16, m_wr, hn40, zz_ixn (show s < 2147483648 by omega)])
      · skip
        try simp +decide only [z0, z1436, z1437, z1438, z1647, z1728, z1734, mi1 (n := s) (by omega), mi1p (b := s) (by omega), mi4 (a := s) (by omega), mi4p (a := s) (by omega), qg] at h38 ⊢
        try simp (disch := omega) only [if_neg] at h38 ⊢
        have hn := mw_len hm hs
        have hn40 : ¬ mn M (51 + s) = 40 := fun z => h38 (by rw [hn.1, z]; rfl)
        generalize en : mn M (51 + s) = n at hn hn40
        simp only [hn.1]
        refine zz_cV ok rfl (by and_intros <;> first | exact True.intro | with_reducible exact v0 | with_reducible exact v1436 | with_reducible exact v1437 | with_reducible exact v1438 | with_reducible exact v1647 | with_reducible exact v1728 | with_reducible exact v1734 | with_reducible exact vi1 (by omega) (by decide) | with_reducible exact vi2 (by omega) (by decide) | with_reducible exact vi3 (by omega) (by decide) | with_reducible exact vi1p (by omega) (by decide) | with_reducible exact vi2p (by omega) (by decide) | with_reducible exact vi4 (by omega) (by decide) | with_reducible exact vi4p (by omega) (by decide) | with_reducible exact vi5 (by omega) (by decide) | with_reducible exact vi5p (by omega) (by decide) | trivial | exact vi0 (by decide) (by decide)) rfl lk_Mo_44 ca_Mo_latest rfl rfl rfl rfl rfl (sp_Mo_latest hG rfl hs ?_)
        try simp +decide only [z0, z1436, z1437, z1438, z1647, z1728, z1734, mi1 (n := s) (by omega), mi1p (b := s) (by omega), mi4 (a := s) (by omega), mi4p (a := s) (by omega), qg]
        try simp (disch := omega) only [if_neg]
        refine zz_b ok rfl trivial rfl (fun h65 => ?_) (fun h65 => ?_)
        · skip
          try simp +decide only [z0, z1436, z1437, z1438, z1647, z1728, z1734, mi1 (n := s) (by omega), mi1p (b := s) (by omega), mi4 (a := s) (by omega), mi4p (a := s) (by omega), qg] at h65 ⊢
          try simp (disch := omega) only [if_neg] at h65 ⊢
          have hn0 : 0 < n := by
            rw [ni_lit, ni_ltn (by decide) (by omega)] at h65; exact h65
          refine zz_cV ok rfl trivial rfl lk_Mo_47 ca_Mo_part rfl rfl rfl rfl rfl (sp_Mo_part (i := n - 1) (w := 3) hG rfl hs (by rw [ni_lit, ni_subn (by omega)]) (by omega) rfl (by decide) ?_)
          try simp +decide only [z0, z1436, z1437, z1438, z1647, z1728, z1734, mi1 (n := s) (by omega), mi1p (b := s) (by omega), mi4 (a := s) (by omega), mi4p (a := s) (by omega), qg]
          try simp (disch := omega) only [if_neg]
          refine zz_b ok rfl trivial rfl (fun h80 => ?_) (fun h80 => ?_)
          · skip
            try simp +decide only [z0, z1436, z1437, z1438, z1647, z1728, z1734, mi1 (n := s) (by omega), mi1p (b := s) (by omega), mi4 (a := s) (by omega), mi4p (a := s) (by omega), qg] at h80 ⊢
            try simp (disch := omega) only [if_neg] at h80 ⊢
            have lp100 : ∀ (y : Int32), y = m_st M s → zz_W G Z md_Mo_writes post 100 [(5, .inl (M.1 (20, 0, 0) (61 + s))), (4, .inl (nI n)), (3, .inl v), (2, .inl k), (1, .inl (nI s)), (0, .inr (.inr (6, 0, 0)))] [.inl y] M := by
              intro y ey
              subst ey
              have lp176 : ∀ (f j : Nat), 5 - j < f → j ≤ 5 → ∀ (x9 x8 : Int32) (M' : zM), x9 = nI j → (M', x8) = zz_it (m_w1 s (q M (61 + s))) j (m_w0 M s k v, 1) → mw M' → (∀ i, i < 36 ∨ (61 ≤ i ∧ i < 476) → M'.1 (20, 0, 0) i = M.1 (20, 0, 0) i) → M'.1 (20, 0, 0) (51 + s) = nI (n + 1) → zz_W G Z md_Mo_writes post 176 [(9, .inl x9), (8, .inl x8), (6, .inl (m_st M s)), (5, .inl (M.1 (20, 0, 0) (61 + s))), (4, .inl (nI n)), (3, .inl v), (2, .inl k), (1, .inl (nI s)), (0, .inr (.inr (6, 0, 0)))] [] M' := by
                intro f
                induction f with
                | zero => intro j hf; exact absurd hf (Nat.not_lt_zero _)
                | succ f ih => ?_
                intro j hf hj x9 x8 M' e9 eX hm' hq hl
                subst e9
                refine zz_b ok rfl trivial rfl (fun h179 => ?_) (fun h179 => ?_)
                · skip
                  try simp +decide only [z0, z1436, z1437, z1438, z1647, z1728, z1734, mi1 (n := s) (by omega), mi1p (b := s) (by omega), mi4 (a := s) (by omega), mi4p (a := s) (by omega), qg] at h179 ⊢
                  try simp (disch := omega) only [if_neg] at h179 ⊢
                  rw [ni_lit, ni_ltn (by omega) (by decide)] at h179
                  have hj5 : j < 5 := h179
                  refine zz_b ok rfl trivial rfl (fun h185 => ?_) (fun h185 => ?_)
                  · skip
                    try simp +decide only [z0, z1436, z1437, z1438, z1647, z1728, z1734, mi1 (n := s) (by omega), mi1p (b := s) (by omega), mi4 (a := s) (by omega), mi4p (a := s) (by omega), qg] at h185 ⊢
                    try simp (disch := omega) only [if_neg] at h185 ⊢
                    rw [ni_eqn (by omega) (by omega)] at h185
                    refine zz_gx ok [100, 176, 275] rfl trivial ?_
                    refine zz_pm [9, 8, 6, 5, 4, 3, 2, 1, 0] rfl ?_
                    try simp +decide only [z0, z1436, z1437, z1438, z1647, z1728, z1734, mi1 (n := s) (by omega), mi1p (b := s) (by omega), mi4 (a := s) (by omega), mi4p (a := s) (by omega), mi1 (n := j) (by omega), mi1p (b := j) (by omega), mi4 (a := j) (by omega), mi4p (a := j) (by omega), mi2 (a := s) (b := j) (by omega) (by omega), mi2p (a := s) (b := j) (by omega) (by omega), mi2 (a := j) (b := s) (by omega) (by omega), mi2p (a := j) (b := s) (by omega) (by omega)]
                    exact ih (j + 1) (by omega) (by omega) _ _ _ (nI_1 j) (by rw [zz_it, ← eX, m_w1]; rw [if_neg (fun z => z.1 h185)]) hm' hq hl
                  · skip
                    try simp +decide only [z0, z1436, z1437, z1438, z1647, z1728, z1734, mi1 (n := s) (by omega), mi1p (b := s) (by omega), mi4 (a := s) (by omega), mi4p (a := s) (by omega), qg] at h185 ⊢
                    try simp (disch := omega) only [if_neg] at h185 ⊢
                    rw [ni_eqn (by omega) (by omega)] at h185
                    refine zz_cV ok rfl trivial rfl lk_Mo_68 ca_Mo_reaches rfl rfl rfl rfl rfl (sp_Mo_reaches hG rfl hs rfl hj5 ?_)
                    try simp +decide only [z0, z1436, z1437, z1438, z1647, z1728, z1734, mi1 (n := s) (by omega), mi1p (b := s) (by omega), mi4 (a := s) (by omega), mi4p (a := s) (by omega), qg]
                    try simp (disch := omega) only [if_neg]
                    refine zz_b ok rfl trivial rfl (fun h195 => ?_) (fun h195 => ?_)
                    · skip
                      try simp +decide only [z0, z1436, z1437, z1438, z1647, z1728, z1734, mi1 (n := s) (by omega), mi1p (b := s) (by omega), mi4 (a := s) (by omega), mi4p (a := s) (by omega), qg] at h195 ⊢
                      try simp (disch := omega) only [if_neg] at h195 ⊢
                      simp only [zz_bi0, Bool.not_eq_false] at h195
                      refine zz_gx ok [100, 176, 275] rfl trivial ?_
                      refine zz_pm [9, 8, 6, 5, 4, 3, 2, 1, 0] rfl ?_
                      try simp +decide only [z0, z1436, z1437, z1438, z1647, z1728, z1734, mi1 (n := s) (by omega), mi1p (b := s) (by omega), mi4 (a := s) (by omega), mi4p (a := s) (by omega), mi1 (n := j) (by omega), mi1p (b := j) (by omega), mi4 (a := j) (by omega), mi4p (a := j) (by omega), mi2 (a := s) (b := j) (by omega) (by omega), mi2p (a := s) (b := j) (by omega) (by omega), mi2 (a := j) (b := s) (by omega) (by omega), mi2p (a := j) (b := s) (by omega) (by omega)]
                      exact ih (j + 1) (by omega) (by omega) _ _ _ (nI_1 j) (by rw [zz_it, ← eX, m_w1]; rw [if_neg (by simp [h195])]) hm' hq hl
                    · skip
                      try simp +decide only [z0, z1436, z1437, z1438, z1647, z1728, z1734, mi1 (n := s) (by omega), mi1p (b := s) (by omega), mi4 (a := s) (by omega), mi4p (a := s) (by omega), qg] at h195 ⊢
                      try simp (disch := omega) only [if_neg] at h195 ⊢
                      simp only [zz_bi0, Bool.not_eq_false] at h195
                      refine zz_b ok rfl (by and_intros <;> first | exact True.intro | with_reducible exact v0 | with_reducible exact v1436 | with_reducible exact v1437 | with_reducible exact v1438 | with_reducible exact v1647 | with_reducible exact v1728 | with_reducible exact v1734 | with_reducible exact vi1 (by omega) (by decide) | with_reducible exact vi2 (by omega) (by decide) | with_reducible exact vi3 (by omega) (by decide) | with_reducible exact vi1p (by omega) (by decide) | with_reducible exact vi2p (by omega) (by decide) | with_reducible exact vi4 (by omega) (by decide) | with_reducible exact vi4p (by omega) (by decide) | with_reducible exact vi5 (by omega) (by decide) | with_reducible exact vi5p (by omega) (by decide) | trivial | exact vi0 (by decide) (by decide)) rfl (fun h210 => ?_) (fun h210 => ?_)
                      · skip
                        try simp +decide only [z0, z1436, z1437, z1438, z1647, z1728, z1734, mi1 (n := s) (by omega), mi1p (b := s) (by omega), mi4 (a := s) (by omega), mi4p (a := s) (by omega), qg] at h210 ⊢
                        try simp (disch := omega) only [if_neg] at h210 ⊢
                        simp +decide only [mi1 (n := j) (by omega)] at h210
                        refine zz_gx ok [100, 176, 275] rfl trivial ?_
                        refine zz_pm [9, 8, 6, 5, 4, 3, 2, 1, 0] rfl ?_
                        try simp +decide only [z0, z1436, z1437, z1438, z1647, z1728, z1734, mi1 (n := s) (by omega), mi1p (b := s) (by omega), mi4 (a := s) (by omega), mi4p (a := s) (by omega), mi1 (n := j) (by omega), mi1p (b := j) (by omega), mi4 (a := j) (by omega), mi4p (a := j) (by omega), mi2 (a := s) (b := j) (by omega) (by omega), mi2p (a := s) (b := j) (by omega) (by omega), mi2 (a := j) (b := s) (by omega) (by omega), mi2p (a := j) (b := s) (by omega) (by omega)]
                        exact ih (j + 1) (by omega) (by omega) _ _ _ (nI_1 j) (by rw [zz_it, ← eX, m_w1]; rw [if_neg (fun z => z.2.2 h210)]) hm' hq hl
                      · skip
                        try simp +decide only [z0, z1436, z1437, z1438, z1647, z1728, z1734, mi1 (n := s) (by omega), mi1p (b := s) (by omega), mi4 (a := s) (by omega), mi4p (a := s) (by omega), qg] at h210 ⊢
                        try simp (disch := omega) only [if_neg] at h210 ⊢
                        simp +decide only [mi1 (n := j) (by omega)] at h210
                        refine zz_cV ok rfl (by and_intros <;> first | exact True.intro | with_reducible exact v0 | with_reducible exact v1436 | with_reducible exact v1437 | with_reducible exact v1438 | with_reducible exact v1647 | with_reducible exact v1728 | with_reducible exact v1734 | with_reducible exact vi1 (by omega) (by decide) | with_reducible exact vi2 (by omega) (by decide) | with_reducible exact vi3 (by omega) (by decide) | with_reducible exact vi1p (by omega) (by decide) | with_reducible exact vi2p (by omega) (by decide) | with_reducible exact vi4 (by omega) (by decide) | with_reducible exact vi4p (by omega) (by decide) | with_reducible exact vi5 (by omega) (by decide) | with_reducible exact vi5p (by omega) (by decide) | trivial | exact vi0 (by decide) (by decide)) rfl lk_Mo_94 ca_Mo_copiesLog rfl rfl rfl rfl rfl (sp_Mo_copiesLog hm' hG rfl hs rfl hj5 (fun z => h185 z.symm) ?_)
                        try simp +decide only [z0, z1436, z1437, z1438, z1647, z1728, z1734, mi1 (n := s) (by omega), mi1p (b := s) (by omega), mi4 (a := s) (by omega), mi4p (a := s) (by omega), qg]
                        try simp (disch := omega) only [if_neg]
                        refine zz_gx ok [100, 176, 275] rfl trivial ?_
                        refine zz_pm [9, 8, 6, 5, 4, 3, 2, 1, 0] rfl ?_
                        try simp +decide only [z0, z1436, z1437, z1438, z1647, z1728, z1734, mi1 (n := s) (by omega), mi1p (b := s) (by omega), mi4 (a := s) (by omega), mi4p (a := s) (by omega), mi1 (n := j) (by omega), mi1p (b := j) (by omega), mi4 (a := j) (by omega), mi4p (a := j) (by omega), mi2 (a := s) (b := j) (by omega) (by omega), mi2p (a := s) (b := j) (by omega) (by omega), mi2 (a := j) (b := s) (by omega) (by omega), mi2p (a := j) (b := s) (by omega) (by omega)]
                        exact ih (j + 1) (by omega) (by omega) _ _ _ (nI_1 j) (by rw [zz_it, ← eX, m_w1]; rw [if_pos ⟨h185, h195, h210⟩]) (by exact m_cl_mw hs hj5 (mw_done hm' hs).1 (mw_done hm' hs).2 hm') (fun i hi => by rw [m_cl_q hj5 (mw_len hm' hs).2 (by omega)]; exact hq i hi) (by
                          have hl5 := (mw_len hm' hs).2
                          unfold m_cl; rw [qg, if_neg (by omega), qg, if_neg (by omega), qg, if_neg (by omega), qgc, if_neg (by omega)]; exact hl)
                · skip
                  try simp +decide only [z0, z1436, z1437, z1438, z1647, z1728, z1734, mi1 (n := s) (by omega), mi1p (b := s) (by omega), mi4 (a := s) (by omega), mi4p (a := s) (by omega), qg] at h179 ⊢
                  try simp (disch := omega) only [if_neg] at h179 ⊢
                  rw [ni_lit, ni_ltn (by omega) (by decide)] at h179
                  have hj6 : j = 5 := by omega
                  subst hj6
                  have eX1 : m_wX M s k v = (M', x8) := eX.symm
                  refine zz_b ok rfl trivial rfl (fun h243 => ?_) (fun h243 => ?_)
                  · skip
                    try simp +decide only [z0, z1436, z1437, z1438, z1647, z1728, z1734, mi1 (n := s) (by omega), mi1p (b := s) (by omega), mi4 (a := s) (by omega), mi4p (a := s) (by omega), qg] at h243 ⊢
                    try simp (disch := omega) only [if_neg] at h243 ⊢
                    refine zz_i ok rfl trivial rfl rfl ?_
                    exact zz_pq h (by simp [m_writes, nsv, h4, h16, m_wr, en, hn40, eX1, h243, zz_ixn (show s < 2147483648 by omega)]) (by simp [m_writes, nsv, h4, h16, m_wr, en, hn40, eX1, h243, zz_ixn (show s < 2147483648 by omega)])
                  · skip
                    try simp +decide only [z0, z1436, z1437, z1438, z1647, z1728, z1734, mi1 (n := s) (by omega), mi1p (b := s) (by omega), mi4 (a := s) (by omega), mi4p (a := s) (by omega), qg] at h243 ⊢
                    try simp (disch := omega) only [if_neg] at h243 ⊢
                    refine zz_cV ok rfl (by and_intros <;> first | exact True.intro | with_reducible exact v0 | with_reducible exact v1436 | with_reducible exact v1437 | with_reducible exact v1438 | with_reducible exact v1647 | with_reducible exact v1728 | with_reducible exact v1734 | with_reducible exact vi1 (by omega) (by decide) | with_reducible exact vi2 (by omega) (by decide) | with_reducible exact vi3 (by omega) (by decide) | with_reducible exact vi1p (by omega) (by decide) | with_reducible exact vi2p (by omega) (by decide) | with_reducible exact vi4 (by omega) (by decide) | with_reducible exact vi4p (by omega) (by decide) | with_reducible exact vi5 (by omega) (by decide) | with_reducible exact vi5p (by omega) (by decide) | trivial | exact vi0 (by decide) (by decide)) rfl lk_Mo_98 ca_Mo_remembers rfl rfl rfl rfl rfl (sp_Mo_remembers (by simp +decide only [z0, z1436, z1437, z1438, z1647, z1728, z1734, mi1 (n := s) (by omega), mi1p (b := s) (by omega), mi4 (a := s) (by omega), mi4p (a := s) (by omega)]; exact m_w2_mw hs hm') hG rfl hs ?_)
                    try simp +decide only [z0, z1436, z1437, z1438, z1647, z1728, z1734, mi1 (n := s) (by omega), mi1p (b := s) (by omega), mi4 (a := s) (by omega), mi4p (a := s) (by omega), qg]
                    try simp (disch := omega) only [if_neg]
                    have lp275 : ∀ (B : zM), B = m_w2 M' s → zz_W G Z md_Mo_writes post 275 [(6, .inl (m_st M s)), (4, .inl (nI n)), (1, .inl (nI s)), (0, .inr (.inr (6, 0, 0)))] [] B := by
                      intro B eB
                      have hD : B.1 (20, 0, 0) (71 + s) = nI (mn M (71 + s)) := by rw [eB, m_w2_q hs hm' (by omega), hq _ (by omega)]; exact (mw_due hm hs).1
                      have hdl : mn M (71 + s) < 40 := by have := hd s hs; omega
                      generalize ed : mn M (71 + s) = D at hD hdl
                      refine zz_i ok rfl (by simp +decide only [z0, z1436, z1437, z1438, z1647, z1728, z1734, mi1 (n := s) (by omega), mi1p (b := s) (by omega), mi4 (a := s) (by omega), mi4p (a := s) (by omega), qg, hD, mi2 (a := s) (b := D) (by omega) (by omega)]; simp (disch := omega) only [if_neg, hD]; and_intros <;> first | exact True.intro | with_reducible exact v0 | with_reducible exact v1436 | with_reducible exact v1437 | with_reducible exact v1438 | with_reducible exact v1647 | with_reducible exact v1728 | with_reducible exact v1734 | with_reducible exact vi1 (by omega) (by decide) | with_reducible exact vi2 (by omega) (by decide) | with_reducible exact vi3 (by omega) (by decide) | with_reducible exact vi1p (by omega) (by decide) | with_reducible exact vi2p (by omega) (by decide) | with_reducible exact vi4 (by omega) (by decide) | with_reducible exact vi4p (by omega) (by decide) | with_reducible exact vi5 (by omega) (by decide) | with_reducible exact vi5p (by omega) (by decide) | trivial | exact vi0 (by decide) (by decide)) rfl rfl ?_
                      simp +decide only [z0, z1436, z1437, z1438, z1647, z1728, z1734, mi1 (n := s) (by omega), mi1p (b := s) (by omega), mi4 (a := s) (by omega), mi4p (a := s) (by omega), mi2 (a := s) (b := D) (by omega) (by omega), qg, hD]
                      simp (disch := omega) only [if_neg, hD, nI_1]
                      simp +decide only [z0, z1436, z1437, z1438, z1647, z1728, z1734, mi1 (n := s) (by omega), mi1p (b := s) (by omega), mi4 (a := s) (by omega), mi4p (a := s) (by omega), mi2 (a := s) (b := D) (by omega) (by omega)]
                      try simp (disch := omega) only [if_neg, nI_1]
                      exact zz_pq h (by simp [m_writes, nsv, h4, h16, m_wr, en, hn40, eX1, h243, zz_ixn (show s < 2147483648 by omega)]) (by simp [m_writes, nsv, h4, h16, m_wr, en, hn40, eX1, h243, ed, m_w3, eB, zz_ixn (show s < 2147483648 by omega)])
                    refine zz_pm [6, 4, 1, 0] rfl ?_
                    exact lp275 _ (by unfold m_w2; simp +decide only [z0, z1436, z1437, z1438, z1647, z1728, z1734, mi1 (n := s) (by omega), mi1p (b := s) (by omega), mi4 (a := s) (by omega), mi4p (a := s) (by omega)])
              refine zz_gx ok [100, 176, 275] rfl (by and_intros <;> first | exact True.intro | with_reducible exact v0 | with_reducible exact v1436 | with_reducible exact v1437 | with_reducible exact v1438 | with_reducible exact v1647 | with_reducible exact v1728 | with_reducible exact v1734 | with_reducible exact vi1 (by omega) (by decide) | with_reducible exact vi2 (by omega) (by decide) | with_reducible exact vi3 (by omega) (by decide) | with_reducible exact vi1p (by omega) (by decide) | with_reducible exact vi2p (by omega) (by decide) | with_reducible exact vi4 (by omega) (by decide) | with_reducible exact vi4p (by omega) (by decide) | with_reducible exact vi5 (by omega) (by decide) | with_reducible exact vi5p (by omega) (by decide) | trivial | exact vi0 (by decide) (by decide)) ?_
              refine zz_pm [9, 8, 6, 5, 4, 3, 2, 1, 0] rfl ?_
              simp +decide only [z0, z1436, z1437, z1438, z1647, z1728, z1734, mi1 (n := s) (by omega), mi1p (b := s) (by omega), mi4 (a := s) (by omega), mi4p (a := s) (by omega), mi5 (a := s) (b := n) (by omega) (by omega), mi5p (a := s) (b := n) (by omega) (by omega), qg]
              simp (disch := omega) only [if_neg, hn.1, nI_1]
              refine lp176 6 0 (by omega) (by omega) _ _ _ rfl (by rw [zz_it]; unfold m_w0; rw [en]) ?_ ?_ ?_
              · have := m_w0_mw (key := k) (val := v) hs (by omega) hm
                unfold m_w0 at this; rw [en] at this; exact this
              · intro i hi; rw [qg, if_neg (by omega), qg, if_neg (by omega), qg, if_neg (by omega), qg, if_neg (by omega), qg, if_neg (by omega)]
              · rw [qg, if_pos rfl]
            refine zz_gx ok [100, 176, 275] rfl trivial ?_
            refine zz_pm [5, 4, 3, 2, 1, 0] rfl ?_
            exact lp100 _ (by unfold m_st; rw [en]; rw [if_neg (fun z => z.2 h80)])
          · skip
            try simp +decide only [z0, z1436, z1437, z1438, z1647, z1728, z1734, mi1 (n := s) (by omega), mi1p (b := s) (by omega), mi4 (a := s) (by omega), mi4p (a := s) (by omega), qg] at h80 ⊢
            try simp (disch := omega) only [if_neg] at h80 ⊢
            refine zz_cV ok rfl trivial rfl lk_Mo_47 ca_Mo_part rfl rfl rfl rfl rfl (sp_Mo_part (i := n - 1) (w := 3) hG rfl hs (by rw [ni_lit, ni_subn (by omega)]) (by omega) rfl (by decide) ?_)
            try simp +decide only [z0, z1436, z1437, z1438, z1647, z1728, z1734, mi1 (n := s) (by omega), mi1p (b := s) (by omega), mi4 (a := s) (by omega), mi4p (a := s) (by omega), qg]
            try simp (disch := omega) only [if_neg]
            have lp100 : ∀ (y : Int32), y = m_st M s → zz_W G Z md_Mo_writes post 100 [(5, .inl (M.1 (20, 0, 0) (61 + s))), (4, .inl (nI n)), (3, .inl v), (2, .inl k), (1, .inl (nI s)), (0, .inr (.inr (6, 0, 0)))] [.inl y] M := by
              intro y ey
              subst ey
              have lp176 : ∀ (f j : Nat), 5 - j < f → j ≤ 5 → ∀ (x9 x8 : Int32) (M' : zM), x9 = nI j → (M', x8) = zz_it (m_w1 s (q M (61 + s))) j (m_w0 M s k v, 1) → mw M' → (∀ i, i < 36 ∨ (61 ≤ i ∧ i < 476) → M'.1 (20, 0, 0) i = M.1 (20, 0, 0) i) → M'.1 (20, 0, 0) (51 + s) = nI (n + 1) → zz_W G Z md_Mo_writes post 176 [(9, .inl x9), (8, .inl x8), (6, .inl (m_st M s)), (5, .inl (M.1 (20, 0, 0) (61 + s))), (4, .inl (nI n)), (3, .inl v), (2, .inl k), (1, .inl (nI s)), (0, .inr (.inr (6, 0, 0)))] [] M' := by
                intro f
                induction f with
                | zero => intro j hf; exact absurd hf (Nat.not_lt_zero _)
                | succ f ih => ?_
                intro j hf hj x9 x8 M' e9 eX hm' hq hl
                subst e9
                refine zz_b ok rfl trivial rfl (fun h179 => ?_) (fun h179 => ?_)
                · skip
                  try simp +decide only [z0, z1436, z1437, z1438, z1647, z1728, z1734, mi1 (n := s) (by omega), mi1p (b := s) (by omega), mi4 (a := s) (by omega), mi4p (a := s) (by omega), qg] at h179 ⊢
                  try simp (disch := omega) only [if_neg] at h179 ⊢
                  rw [ni_lit, ni_ltn (by omega) (by decide)] at h179
                  have hj5 : j < 5 := h179
                  refine zz_b ok rfl trivial rfl (fun h185 => ?_) (fun h185 => ?_)
                  · skip
                    try simp +decide only [z0, z1436, z1437, z1438, z1647, z1728, z1734, mi1 (n := s) (by omega), mi1p (b := s) (by omega), mi4 (a := s) (by omega), mi4p (a := s) (by omega), qg] at h185 ⊢
                    try simp (disch := omega) only [if_neg] at h185 ⊢
                    rw [ni_eqn (by omega) (by omega)] at h185
                    refine zz_gx ok [100, 176, 275] rfl trivial ?_
                    refine zz_pm [9, 8, 6, 5, 4, 3, 2, 1, 0] rfl ?_
                    try simp +decide only [z0, z1436, z1437, z1438, z1647, z1728, z1734, mi1 (n := s) (by omega), mi1p (b := s) (by omega), mi4 (a := s) (by omega), mi4p (a := s) (by omega), mi1 (n := j) (by omega), mi1p (b := j) (by omega), mi4 (a := j) (by omega), mi4p (a := j) (by omega), mi2 (a := s) (b := j) (by omega) (by omega), mi2p (a := s) (b := j) (by omega) (by omega), mi2 (a := j) (b := s) (by omega) (by omega), mi2p (a := j) (b := s) (by omega) (by omega)]
                    exact ih (j + 1) (by omega) (by omega) _ _ _ (nI_1 j) (by rw [zz_it, ← eX, m_w1]; rw [if_neg (fun z => z.1 h185)]) hm' hq hl
                  · skip
                    try simp +decide only [z0, z1436, z1437, z1438, z1647, z1728, z1734, mi1 (n := s) (by omega), mi1p (b := s) (by omega), mi4 (a := s) (by omega), mi4p (a := s) (by omega), qg] at h185 ⊢
                    try simp (disch := omega) only [if_neg] at h185 ⊢
                    rw [ni_eqn (by omega) (by omega)] at h185
                    refine zz_cV ok rfl trivial rfl lk_Mo_68 ca_Mo_reaches rfl rfl rfl rfl rfl (sp_Mo_reaches hG rfl hs rfl hj5 ?_)
                    try simp +decide only [z0, z1436, z1437, z1438, z1647, z1728, z1734, mi1 (n := s) (by omega), mi1p (b := s) (by omega), mi4 (a := s) (by omega), mi4p (a := s) (by omega), qg]
                    try simp (disch := omega) only [if_neg]
                    refine zz_b ok rfl trivial rfl (fun h195 => ?_) (fun h195 => ?_)
                    · skip
                      try simp +decide only [z0, z1436, z1437, z1438, z1647, z1728, z1734, mi1 (n := s) (by omega), mi1p (b := s) (by omega), mi4 (a := s) (by omega), mi4p (a := s) (by omega), qg] at h195 ⊢
                      try simp (disch := omega) only [if_neg] at h195 ⊢
                      simp only [zz_bi0, Bool.not_eq_false] at h195
                      refine zz_gx ok [100, 176, 275] rfl trivial ?_
                      refine zz_pm [9, 8, 6, 5, 4, 3, 2, 1, 0] rfl ?_
                      try simp +decide only [z0, z1436, z1437, z1438, z1647, z1728, z1734, mi1 (n := s) (by omega), mi1p (b := s) (by omega), mi4 (a := s) (by omega), mi4p (a := s) (by omega), mi1 (n := j) (by omega), mi1p (b := j) (by omega), mi4 (a := j) (by omega), mi4p (a := j) (by omega), mi2 (a := s) (b := j) (by omega) (by omega), mi2p (a := s) (b := j) (by omega) (by omega), mi2 (a := j) (b := s) (by omega) (by omega), mi2p (a := j) (b := s) (by omega) (by omega)]
                      exact ih (j + 1) (by omega) (by omega) _ _ _ (nI_1 j) (by rw [zz_it, ← eX, m_w1]; rw [if_neg (by simp [h195])]) hm' hq hl
                    · skip
                      try simp +decide only [z0, z1436, z1437, z1438, z1647, z1728, z1734, mi1 (n := s) (by omega), mi1p (b := s) (by omega), mi4 (a := s) (by omega), mi4p (a := s) (by omega), qg] at h195 ⊢
                      try simp (disch := omega) only [if_neg] at h195 ⊢
                      simp only [zz_bi0, Bool.not_eq_false] at h195
                      refine zz_b ok rfl (by and_intros <;> first | exact True.intro | with_reducible exact v0 | with_reducible exact v1436 | with_reducible exact v1437 | with_reducible exact v1438 | with_reducible exact v1647 | with_reducible exact v1728 | with_reducible exact v1734 | with_reducible exact vi1 (by omega) (by decide) | with_reducible exact vi2 (by omega) (by decide) | with_reducible exact vi3 (by omega) (by decide) | with_reducible exact vi1p (by omega) (by decide) | with_reducible exact vi2p (by omega) (by decide) | with_reducible exact vi4 (by omega) (by decide) | with_reducible exact vi4p (by omega) (by decide) | with_reducible exact vi5 (by omega) (by decide) | with_reducible exact vi5p (by omega) (by decide) | trivial | exact vi0 (by decide) (by decide)) rfl (fun h210 => ?_) (fun h210 => ?_)
                      · skip
                        try simp +decide only [z0, z1436, z1437, z1438, z1647, z1728, z1734, mi1 (n := s) (by omega), mi1p (b := s) (by omega), mi4 (a := s) (by omega), mi4p (a := s) (by omega), qg] at h210 ⊢
                        try simp (disch := omega) only [if_neg] at h210 ⊢
                        simp +decide only [mi1 (n := j) (by omega)] at h210
                        refine zz_gx ok [100, 176, 275] rfl trivial ?_
                        refine zz_pm [9, 8, 6, 5, 4, 3, 2, 1, 0] rfl ?_
                        try simp +decide only [z0, z1436, z1437, z1438, z1647, z1728, z1734, mi1 (n := s) (by omega), mi1p (b := s) (by omega), mi4 (a := s) (by omega), mi4p (a := s) (by omega), mi1 (n := j) (by omega), mi1p (b := j) (by omega), mi4 (a := j) (by omega), mi4p (a := j) (by omega), mi2 (a := s) (b := j) (by omega) (by omega), mi2p (a := s) (b := j) (by omega) (by omega), mi2 (a := j) (b := s) (by omega) (by omega), mi2p (a := j) (b := s) (by omega) (by omega)]
                        exact ih (j + 1) (by omega) (by omega) _ _ _ (nI_1 j) (by rw [zz_it, ← eX, m_w1]; rw [if_neg (fun z => z.2.2 h210)]) hm' hq hl
                      · skip
                        try simp +decide only [z0, z1436, z1437, z1438, z1647, z1728, z1734, mi1 (n := s) (by omega), mi1p (b := s) (by omega), mi4 (a := s) (by omega), mi4p (a := s) (by omega), qg] at h210 ⊢
                        try simp (disch := omega) only [if_neg] at h210 ⊢
                        simp +decide only [mi1 (n := j) (by omega)] at h210
                        refine zz_cV ok rfl (by and_intros <;> first | exact True.intro | with_reducible exact v0 | with_reducible exact v1436 | with_reducible exact v1437 | with_reducible exact v1438 | with_reducible exact v1647 | with_reducible exact v1728 | with_reducible exact v1734 | with_reducible exact vi1 (by omega) (by decide) | with_reducible exact vi2 (by omega) (by decide) | with_reducible exact vi3 (by omega) (by decide) | with_reducible exact vi1p (by omega) (by decide) | with_reducible exact vi2p (by omega) (by decide) | with_reducible exact vi4 (by omega) (by decide) | with_reducible exact vi4p (by omega) (by decide) | with_reducible exact vi5 (by omega) (by decide) | with_reducible exact vi5p (by omega) (by decide) | trivial | exact vi0 (by decide) (by decide)) rfl lk_Mo_94 ca_Mo_copiesLog rfl rfl rfl rfl rfl (sp_Mo_copiesLog hm' hG rfl hs rfl hj5 (fun z => h185 z.symm) ?_)
                        try simp +decide only [z0, z1436, z1437, z1438, z1647, z1728, z1734, mi1 (n := s) (by omega), mi1p (b := s) (by omega), mi4 (a := s) (by omega), mi4p (a := s) (by omega), qg]
                        try simp (disch := omega) only [if_neg]
                        refine zz_gx ok [100, 176, 275] rfl trivial ?_
                        refine zz_pm [9, 8, 6, 5, 4, 3, 2, 1, 0] rfl ?_
                        try simp +decide only [z0, z1436, z1437, z1438, z1647, z1728, z1734, mi1 (n := s) (by omega), mi1p (b := s) (by omega), mi4 (a := s) (by omega), mi4p (a := s) (by omega), mi1 (n := j) (by omega), mi1p (b := j) (by omega), mi4 (a := j) (by omega), mi4p (a := j) (by omega), mi2 (a := s) (b := j) (by omega) (by omega), mi2p (a := s) (b := j) (by omega) (by omega), mi2 (a := j) (b := s) (by omega) (by omega), mi2p (a := j) (b := s) (by omega) (by omega)]
                        exact ih (j + 1) (by omega) (by omega) _ _ _ (nI_1 j) (by rw [zz_it, ← eX, m_w1]; rw [if_pos ⟨h185, h195, h210⟩]) (by exact m_cl_mw hs hj5 (mw_done hm' hs).1 (mw_done hm' hs).2 hm') (fun i hi => by rw [m_cl_q hj5 (mw_len hm' hs).2 (by omega)]; exact hq i hi) (by
                          have hl5 := (mw_len hm' hs).2
                          unfold m_cl; rw [qg, if_neg (by omega), qg, if_neg (by omega), qg, if_neg (by omega), qgc, if_neg (by omega)]; exact hl)
                · skip
                  try simp +decide only [z0, z1436, z1437, z1438, z1647, z1728, z1734, mi1 (n := s) (by omega), mi1p (b := s) (by omega), mi4 (a := s) (by omega), mi4p (a := s) (by omega), qg] at h179 ⊢
                  try simp (disch := omega) only [if_neg] at h179 ⊢
                  rw [ni_lit, ni_ltn (by omega) (by decide)] at h179
                  have hj6 : j = 5 := by omega
                  subst hj6
                  have eX1 : m_wX M s k v = (M', x8) := eX.symm
                  refine zz_b ok rfl trivial rfl (fun h243 => ?_) (fun h243 => ?_)
                  · skip
                    try simp +decide only [z0, z1436, z1437, z1438, z1647, z1728, z1734, mi1 (n := s) (by omega), mi1p (b := s) (by omega), mi4 (a := s) (by omega), mi4p (a := s) (by omega), qg] at h243 ⊢
                    try simp (disch := omega) only [if_neg] at h243 ⊢
                    refine zz_i ok rfl trivial rfl rfl ?_
                    exact zz_pq h (by simp [m_writes, nsv, h4, h16, m_wr, en, hn40, eX1, h243, zz_ixn (show s < 2147483648 by omega)]) (by simp [m_writes, nsv, h4, h16, m_wr, en, hn40, eX1, h243, zz_ixn (show s < 2147483648 by omega)])
                  · skip
                    try simp +decide only [z0, z1436, z1437, z1438, z1647, z1728, z1734, mi1 (n := s) (by omega), mi1p (b := s) (by omega), mi4 (a := s) (by omega), mi4p (a := s) (by omega), qg] at h243 ⊢
                    try simp (disch := omega) only [if_neg] at h243 ⊢
                    refine zz_cV ok rfl (by and_intros <;> first | exact True.intro | with_reducible exact v0 | with_reducible exact v1436 | with_reducible exact v1437 | with_reducible exact v1438 | with_reducible exact v1647 | with_reducible exact v1728 | with_reducible exact v1734 | with_reducible exact vi1 (by omega) (by decide) | with_reducible exact vi2 (by omega) (by decide) | with_reducible exact vi3 (by omega) (by decide) | with_reducible exact vi1p (by omega) (by decide) | with_reducible exact vi2p (by omega) (by decide) | with_reducible exact vi4 (by omega) (by decide) | with_reducible exact vi4p (by omega) (by decide) | with_reducible exact vi5 (by omega) (by decide) | with_reducible exact vi5p (by omega) (by decide) | trivial | exact vi0 (by decide) (by decide)) rfl lk_Mo_98 ca_Mo_remembers rfl rfl rfl rfl rfl (sp_Mo_remembers (by simp +decide only [z0, z1436, z1437, z1438, z1647, z1728, z1734, mi1 (n := s) (by omega), mi1p (b := s) (by omega), mi4 (a := s) (by omega), mi4p (a := s) (by omega)]; exact m_w2_mw hs hm') hG rfl hs ?_)
                    try simp +decide only [z0, z1436, z1437, z1438, z1647, z1728, z1734, mi1 (n := s) (by omega), mi1p (b := s) (by omega), mi4 (a := s) (by omega), mi4p (a := s) (by omega), qg]
                    try simp (disch := omega) only [if_neg]
                    have lp275 : ∀ (B : zM), B = m_w2 M' s → zz_W G Z md_Mo_writes post 275 [(6, .inl (m_st M s)), (4, .inl (nI n)), (1, .inl (nI s)), (0, .inr (.inr (6, 0, 0)))] [] B := by
                      intro B eB
                      have hD : B.1 (20, 0, 0) (71 + s) = nI (mn M (71 + s)) := by rw [eB, m_w2_q hs hm' (by omega), hq _ (by omega)]; exact (mw_due hm hs).1
                      have hdl : mn M (71 + s) < 40 := by have := hd s hs; omega
                      generalize ed : mn M (71 + s) = D at hD hdl
                      refine zz_i ok rfl (by simp +decide only [z0, z1436, z1437, z1438, z1647, z1728, z1734, mi1 (n := s) (by omega), mi1p (b := s) (by omega), mi4 (a := s) (by omega), mi4p (a := s) (by omega), qg, hD, mi2 (a := s) (b := D) (by omega) (by omega)]; simp (disch := omega) only [if_neg, hD]; and_intros <;> first | exact True.intro | with_reducible exact v0 | with_reducible exact v1436 | with_reducible exact v1437 | with_reducible exact v1438 | with_reducible exact v1647 | with_reducible exact v1728 | with_reducible exact v1734 | with_reducible exact vi1 (by omega) (by decide) | with_reducible exact vi2 (by omega) (by decide) | with_reducible exact vi3 (by omega) (by decide) | with_reducible exact vi1p (by omega) (by decide) | with_reducible exact vi2p (by omega) (by decide) | with_reducible exact vi4 (by omega) (by decide) | with_reducible exact vi4p (by omega) (by decide) | with_reducible exact vi5 (by omega) (by decide) | with_reducible exact vi5p (by omega) (by decide) | trivial | exact vi0 (by decide) (by decide)) rfl rfl ?_
                      simp +decide only [z0, z1436, z1437, z1438, z1647, z1728, z1734, mi1 (n := s) (by omega), mi1p (b := s) (by omega), mi4 (a := s) (by omega), mi4p (a := s) (by omega), mi2 (a := s) (b := D) (by omega) (by omega), qg, hD]
                      simp (disch := omega) only [if_neg, hD, nI_1]
                      simp +decide only [z0, z1436, z1437, z1438, z1647, z1728, z1734, mi1 (n := s) (by omega), mi1p (b := s) (by omega), mi4 (a := s) (by omega), mi4p (a := s) (by omega), mi2 (a := s) (b := D) (by omega) (by omega)]
                      try simp (disch := omega) only [if_neg, nI_1]
                      exact zz_pq h (by simp [m_writes, nsv, h4, h16, m_wr, en, hn40, eX1, h243, zz_ixn (show s < 2147483648 by omega)]) (by simp [m_writes, nsv, h4, h16, m_wr, en, hn40, eX1, h243, ed, m_w3, eB, zz_ixn (show s < 2147483648 by omega)])
                    refine zz_pm [6, 4, 1, 0] rfl ?_
                    exact lp275 _ (by unfold m_w2; simp +decide only [z0, z1436, z1437, z1438, z1647, z1728, z1734, mi1 (n := s) (by omega), mi1p (b := s) (by omega), mi4 (a := s) (by omega), mi4p (a := s) (by omega)])
              refine zz_gx ok [100, 176, 275] rfl (by and_intros <;> first | exact True.intro | with_reducible exact v0 | with_reducible exact v1436 | with_reducible exact v1437 | with_reducible exact v1438 | with_reducible exact v1647 | with_reducible exact v1728 | with_reducible exact v1734 | with_reducible exact vi1 (by omega) (by decide) | with_reducible exact vi2 (by omega) (by decide) | with_reducible exact vi3 (by omega) (by decide) | with_reducible exact vi1p (by omega) (by decide) | with_reducible exact vi2p (by omega) (by decide) | with_reducible exact vi4 (by omega) (by decide) | with_reducible exact vi4p (by omega) (by decide) | with_reducible exact vi5 (by omega) (by decide) | with_reducible exact vi5p (by omega) (by decide) | trivial | exact vi0 (by decide) (by decide)) ?_
              refine zz_pm [9, 8, 6, 5, 4, 3, 2, 1, 0] rfl ?_
              simp +decide only [z0, z1436, z1437, z1438, z1647, z1728, z1734, mi1 (n := s) (by omega), mi1p (b := s) (by omega), mi4 (a := s) (by omega), mi4p (a := s) (by omega), mi5 (a := s) (b := n) (by omega) (by omega), mi5p (a := s) (b := n) (by omega) (by omega), qg]
              simp (disch := omega) only [if_neg, hn.1, nI_1]
              refine lp176 6 0 (by omega) (by omega) _ _ _ rfl (by rw [zz_it]; unfold m_w0; rw [en]) ?_ ?_ ?_
              · have := m_w0_mw (key := k) (val := v) hs (by omega) hm
                unfold m_w0 at this; rw [en] at this; exact this
              · intro i hi; rw [qg, if_neg (by omega), qg, if_neg (by omega), qg, if_neg (by omega), qg, if_neg (by omega), qg, if_neg (by omega)]
              · rw [qg, if_pos rfl]
            refine zz_gx ok [100, 176, 275] rfl trivial ?_
            refine zz_pm [5, 4, 3, 2, 1, 0] rfl ?_
            exact lp100 _ (by unfold m_st; rw [en]; rw [if_pos ⟨hn0, h80⟩])
        · skip
          try simp +decide only [z0, z1436, z1437, z1438, z1647, z1728, z1734, mi1 (n := s) (by omega), mi1p (b := s) (by omega), mi4 (a := s) (by omega), mi4p (a := s) (by omega), qg] at h65 ⊢
          try simp (disch := omega) only [if_neg] at h65 ⊢
          have hn0 : ¬ 0 < n := by
            rw [ni_lit, ni_ltn (by decide) (by omega)] at h65; exact h65
          have lp100 : ∀ (y : Int32), y = m_st M s → zz_W G Z md_Mo_writes post 100 [(5, .inl (M.1 (20, 0, 0) (61 + s))), (4, .inl (nI n)), (3, .inl v), (2, .inl k), (1, .inl (nI s)), (0, .inr (.inr (6, 0, 0)))] [.inl y] M := by
            intro y ey
            subst ey
            have lp176 : ∀ (f j : Nat), 5 - j < f → j ≤ 5 → ∀ (x9 x8 : Int32) (M' : zM), x9 = nI j → (M', x8) = zz_it (m_w1 s (q M (61 + s))) j (m_w0 M s k v, 1) → mw M' → (∀ i, i < 36 ∨ (61 ≤ i ∧ i < 476) → M'.1 (20, 0, 0) i = M.1 (20, 0, 0) i) → M'.1 (20, 0, 0) (51 + s) = nI (n + 1) → zz_W G Z md_Mo_writes post 176 [(9, .inl x9), (8, .inl x8), (6, .inl (m_st M s)), (5, .inl (M.1 (20, 0, 0) (61 + s))), (4, .inl (nI n)), (3, .inl v), (2, .inl k), (1, .inl (nI s)), (0, .inr (.inr (6, 0, 0)))] [] M' := by
              intro f
              induction f with
              | zero => intro j hf; exact absurd hf (Nat.not_lt_zero _)
              | succ f ih => ?_
              intro j hf hj x9 x8 M' e9 eX hm' hq hl
              subst e9
              refine zz_b ok rfl trivial rfl (fun h179 => ?_) (fun h179 => ?_)
              · skip
                try simp +decide only [z0, z1436, z1437, z1438, z1647, z1728, z1734, mi1 (n := s) (by omega), mi1p (b := s) (by omega), mi4 (a := s) (by omega), mi4p (a := s) (by omega), qg] at h179 ⊢
                try simp (disch := omega) only [if_neg] at h179 ⊢
                rw [ni_lit, ni_ltn (by omega) (by decide)] at h179
                have hj5 : j < 5 := h179
                refine zz_b ok rfl trivial rfl (fun h185 => ?_) (fun h185 => ?_)
                · skip
                  try simp +decide only [z0, z1436, z1437, z1438, z1647, z1728, z1734, mi1 (n := s) (by omega), mi1p (b := s) (by omega), mi4 (a := s) (by omega), mi4p (a := s) (by omega), qg] at h185 ⊢
                  try simp (disch := omega) only [if_neg] at h185 ⊢
                  rw [ni_eqn (by omega) (by omega)] at h185
                  refine zz_gx ok [100, 176, 275] rfl trivial ?_
                  refine zz_pm [9, 8, 6, 5, 4, 3, 2, 1, 0] rfl ?_
                  try simp +decide only [z0, z1436, z1437, z1438, z1647, z1728, z1734, mi1 (n := s) (by omega), mi1p (b := s) (by omega), mi4 (a := s) (by omega), mi4p (a := s) (by omega), mi1 (n := j) (by omega), mi1p (b := j) (by omega), mi4 (a := j) (by omega), mi4p (a := j) (by omega), mi2 (a := s) (b := j) (by omega) (by omega), mi2p (a := s) (b := j) (by omega) (by omega), mi2 (a := j) (b := s) (by omega) (by omega), mi2p (a := j) (b := s) (by omega) (by omega)]
                  exact ih (j + 1) (by omega) (by omega) _ _ _ (nI_1 j) (by rw [zz_it, ← eX, m_w1]; rw [if_neg (fun z => z.1 h185)]) hm' hq hl
                · skip
                  try simp +decide only [z0, z1436, z1437, z1438, z1647, z1728, z1734, mi1 (n := s) (by omega), mi1p (b := s) (by omega), mi4 (a := s) (by omega), mi4p (a := s) (by omega), qg] at h185 ⊢
                  try simp (disch := omega) only [if_neg] at h185 ⊢
                  rw [ni_eqn (by omega) (by omega)] at h185
                  refine zz_cV ok rfl trivial rfl lk_Mo_68 ca_Mo_reaches rfl rfl rfl rfl rfl (sp_Mo_reaches hG rfl hs rfl hj5 ?_)
                  try simp +decide only [z0, z1436, z1437, z1438, z1647, z1728, z1734, mi1 (n := s) (by omega), mi1p (b := s) (by omega), mi4 (a := s) (by omega), mi4p (a := s) (by omega), qg]
                  try simp (disch := omega) only [if_neg]
                  refine zz_b ok rfl trivial rfl (fun h195 => ?_) (fun h195 => ?_)
                  · skip
                    try simp +decide only [z0, z1436, z1437, z1438, z1647, z1728, z1734, mi1 (n := s) (by omega), mi1p (b := s) (by omega), mi4 (a := s) (by omega), mi4p (a := s) (by omega), qg] at h195 ⊢
                    try simp (disch := omega) only [if_neg] at h195 ⊢
                    simp only [zz_bi0, Bool.not_eq_false] at h195
                    refine zz_gx ok [100, 176, 275] rfl trivial ?_
                    refine zz_pm [9, 8, 6, 5, 4, 3, 2, 1, 0] rfl ?_
                    try simp +decide only [z0, z1436, z1437, z1438, z1647, z1728, z1734, mi1 (n := s) (by omega), mi1p (b := s) (by omega), mi4 (a := s) (by omega), mi4p (a := s) (by omega), mi1 (n := j) (by omega), mi1p (b := j) (by omega), mi4 (a := j) (by omega), mi4p (a := j) (by omega), mi2 (a := s) (b := j) (by omega) (by omega), mi2p (a := s) (b := j) (by omega) (by omega), mi2 (a := j) (b := s) (by omega) (by omega), mi2p (a := j) (b := s) (by omega) (by omega)]
                    exact ih (j + 1) (by omega) (by omega) _ _ _ (nI_1 j) (by rw [zz_it, ← eX, m_w1]; rw [if_neg (by simp [h195])]) hm' hq hl
                  · skip
                    try simp +decide only [z0, z1436, z1437, z1438, z1647, z1728, z1734, mi1 (n := s) (by omega), mi1p (b := s) (by omega), mi4 (a := s) (by omega), mi4p (a := s) (by omega), qg] at h195 ⊢
                    try simp (disch := omega) only [if_neg] at h195 ⊢
                    simp only [zz_bi0, Bool.not_eq_false] at h195
                    refine zz_b ok rfl (by and_intros <;> first | exact True.intro | with_reducible exact v0 | with_reducible exact v1436 | with_reducible exact v1437 | with_reducible exact v1438 | with_reducible exact v1647 | with_reducible exact v1728 | with_reducible exact v1734 | with_reducible exact vi1 (by omega) (by decide) | with_reducible exact vi2 (by omega) (by decide) | with_reducible exact vi3 (by omega) (by decide) | with_reducible exact vi1p (by omega) (by decide) | with_reducible exact vi2p (by omega) (by decide) | with_reducible exact vi4 (by omega) (by decide) | with_reducible exact vi4p (by omega) (by decide) | with_reducible exact vi5 (by omega) (by decide) | with_reducible exact vi5p (by omega) (by decide) | trivial | exact vi0 (by decide) (by decide)) rfl (fun h210 => ?_) (fun h210 => ?_)
                    · skip
                      try simp +decide only [z0, z1436, z1437, z1438, z1647, z1728, z1734, mi1 (n := s) (by omega), mi1p (b := s) (by omega), mi4 (a := s) (by omega), mi4p (a := s) (by omega), qg] at h210 ⊢
                      try simp (disch := omega) only [if_neg] at h210 ⊢
                      simp +decide only [mi1 (n := j) (by omega)] at h210
                      refine zz_gx ok [100, 176, 275] rfl trivial ?_
                      refine zz_pm [9, 8, 6, 5, 4, 3, 2, 1, 0] rfl ?_
                      try simp +decide only [z0, z1436, z1437, z1438, z1647, z1728, z1734, mi1 (n := s) (by omega), mi1p (b := s) (by omega), mi4 (a := s) (by omega), mi4p (a := s) (by omega), mi1 (n := j) (by omega), mi1p (b := j) (by omega), mi4 (a := j) (by omega), mi4p (a := j) (by omega), mi2 (a := s) (b := j) (by omega) (by omega), mi2p (a := s) (b := j) (by omega) (by omega), mi2 (a := j) (b := s) (by omega) (by omega), mi2p (a := j) (b := s) (by omega) (by omega)]
                      exact ih (j + 1) (by omega) (by omega) _ _ _ (nI_1 j) (by rw [zz_it, ← eX, m_w1]; rw [if_neg (fun z => z.2.2 h210)]) hm' hq hl
                    · skip
                      try simp +decide only [z0, z1436, z1437, z1438, z1647, z1728, z1734, mi1 (n := s) (by omega), mi1p (b := s) (by omega), mi4 (a := s) (by omega), mi4p (a := s) (by omega), qg] at h210 ⊢
                      try simp (disch := omega) only [if_neg] at h210 ⊢
                      simp +decide only [mi1 (n := j) (by omega)] at h210
                      refine zz_cV ok rfl (by and_intros <;> first | exact True.intro | with_reducible exact v0 | with_reducible exact v1436 | with_reducible exact v1437 | with_reducible exact v1438 | with_reducible exact v1647 | with_reducible exact v1728 | with_reducible exact v1734 | with_reducible exact vi1 (by omega) (by decide) | with_reducible exact vi2 (by omega) (by decide) | with_reducible exact vi3 (by omega) (by decide) | with_reducible exact vi1p (by omega) (by decide) | with_reducible exact vi2p (by omega) (by decide) | with_reducible exact vi4 (by omega) (by decide) | with_reducible exact vi4p (by omega) (by decide) | with_reducible exact vi5 (by omega) (by decide) | with_reducible exact vi5p (by omega) (by decide) | trivial | exact vi0 (by decide) (by decide)) rfl lk_Mo_94 ca_Mo_copiesLog rfl rfl rfl rfl rfl (sp_Mo_copiesLog hm' hG rfl hs rfl hj5 (fun z => h185 z.symm) ?_)
                      try simp +decide only [z0, z1436, z1437, z1438, z1647, z1728, z1734, mi1 (n := s) (by omega), mi1p (b := s) (by omega), mi4 (a := s) (by omega), mi4p (a := s) (by omega), qg]
                      try simp (disch := omega) only [if_neg]
                      refine zz_gx ok [100, 176, 275] rfl trivial ?_
                      refine zz_pm [9, 8, 6, 5, 4, 3, 2, 1, 0] rfl ?_
                      try simp +decide only [z0, z1436, z1437, z1438, z1647, z1728, z1734, mi1 (n := s) (by omega), mi1p (b := s) (by omega), mi4 (a := s) (by omega), mi4p (a := s) (by omega), mi1 (n := j) (by omega), mi1p (b := j) (by omega), mi4 (a := j) (by omega), mi4p (a := j) (by omega), mi2 (a := s) (b := j) (by omega) (by omega), mi2p (a := s) (b := j) (by omega) (by omega), mi2 (a := j) (b := s) (by omega) (by omega), mi2p (a := j) (b := s) (by omega) (by omega)]
                      exact ih (j + 1) (by omega) (by omega) _ _ _ (nI_1 j) (by rw [zz_it, ← eX, m_w1]; rw [if_pos ⟨h185, h195, h210⟩]) (by exact m_cl_mw hs hj5 (mw_done hm' hs).1 (mw_done hm' hs).2 hm') (fun i hi => by rw [m_cl_q hj5 (mw_len hm' hs).2 (by omega)]; exact hq i hi) (by
                        have hl5 := (mw_len hm' hs).2
                        unfold m_cl; rw [qg, if_neg (by omega), qg, if_neg (by omega), qg, if_neg (by omega), qgc, if_neg (by omega)]; exact hl)
              · skip
                try simp +decide only [z0, z1436, z1437, z1438, z1647, z1728, z1734, mi1 (n := s) (by omega), mi1p (b := s) (by omega), mi4 (a := s) (by omega), mi4p (a := s) (by omega), qg] at h179 ⊢
                try simp (disch := omega) only [if_neg] at h179 ⊢
                rw [ni_lit, ni_ltn (by omega) (by decide)] at h179
                have hj6 : j = 5 := by omega
                subst hj6
                have eX1 : m_wX M s k v = (M', x8) := eX.symm
                refine zz_b ok rfl trivial rfl (fun h243 => ?_) (fun h243 => ?_)
                · skip
                  try simp +decide only [z0, z1436, z1437, z1438, z1647, z1728, z1734, mi1 (n := s) (by omega), mi1p (b := s) (by omega), mi4 (a := s) (by omega), mi4p (a := s) (by omega), qg] at h243 ⊢
                  try simp (disch := omega) only [if_neg] at h243 ⊢
                  refine zz_i ok rfl trivial rfl rfl ?_
                  exact zz_pq h (by simp [m_writes, nsv, h4, h16, m_wr, en, hn40, eX1, h243, zz_ixn (show s < 2147483648 by omega)]) (by simp [m_writes, nsv, h4, h16, m_wr, en, hn40, eX1, h243, zz_ixn (show s < 2147483648 by omega)])
                · skip
                  try simp +decide only [z0, z1436, z1437, z1438, z1647, z1728, z1734, mi1 (n := s) (by omega), mi1p (b := s) (by omega), mi4 (a := s) (by omega), mi4p (a := s) (by omega), qg] at h243 ⊢
                  try simp (disch := omega) only [if_neg] at h243 ⊢
                  refine zz_cV ok rfl (by and_intros <;> first | exact True.intro | with_reducible exact v0 | with_reducible exact v1436 | with_reducible exact v1437 | with_reducible exact v1438 | with_reducible exact v1647 | with_reducible exact v1728 | with_reducible exact v1734 | with_reducible exact vi1 (by omega) (by decide) | with_reducible exact vi2 (by omega) (by decide) | with_reducible exact vi3 (by omega) (by decide) | with_reducible exact vi1p (by omega) (by decide) | with_reducible exact vi2p (by omega) (by decide) | with_reducible exact vi4 (by omega) (by decide) | with_reducible exact vi4p (by omega) (by decide) | with_reducible exact vi5 (by omega) (by decide) | with_reducible exact vi5p (by omega) (by decide) | trivial | exact vi0 (by decide) (by decide)) rfl lk_Mo_98 ca_Mo_remembers rfl rfl rfl rfl rfl (sp_Mo_remembers (by simp +decide only [z0, z1436, z1437, z1438, z1647, z1728, z1734, mi1 (n := s) (by omega), mi1p (b := s) (by omega), mi4 (a := s) (by omega), mi4p (a := s) (by omega)]; exact m_w2_mw hs hm') hG rfl hs ?_)
                  try simp +decide only [z0, z1436, z1437, z1438, z1647, z1728, z1734, mi1 (n := s) (by omega), mi1p (b := s) (by omega), mi4 (a := s) (by omega), mi4p (a := s) (by omega), qg]
                  try simp (disch := omega) only [if_neg]
                  have lp275 : ∀ (B : zM), B = m_w2 M' s → zz_W G Z md_Mo_writes post 275 [(6, .inl (m_st M s)), (4, .inl (nI n)), (1, .inl (nI s)), (0, .inr (.inr (6, 0, 0)))] [] B := by
                    intro B eB
                    have hD : B.1 (20, 0, 0) (71 + s) = nI (mn M (71 + s)) := by rw [eB, m_w2_q hs hm' (by omega), hq _ (by omega)]; exact (mw_due hm hs).1
                    have hdl : mn M (71 + s) < 40 := by have := hd s hs; omega
                    generalize ed : mn M (71 + s) = D at hD hdl
                    refine zz_i ok rfl (by simp +decide only [z0, z1436, z1437, z1438, z1647, z1728, z1734, mi1 (n := s) (by omega), mi1p (b := s) (by omega), mi4 (a := s) (by omega), mi4p (a := s) (by omega), qg, hD, mi2 (a := s) (b := D) (by omega) (by omega)]; simp (disch := omega) only [if_neg, hD]; and_intros <;> first | exact True.intro | with_reducible exact v0 | with_reducible exact v1436 | with_reducible exact v1437 | with_reducible exact v1438 | with_reducible exact v1647 | with_reducible exact v1728 | with_reducible exact v1734 | with_reducible exact vi1 (by omega) (by decide) | with_reducible exact vi2 (by omega) (by decide) | with_reducible exact vi3 (by omega) (by decide) | with_reducible exact vi1p (by omega) (by decide) | with_reducible exact vi2p (by omega) (by decide) | with_reducible exact vi4 (by omega) (by decide) | with_reducible exact vi4p (by omega) (by decide) | with_reducible exact vi5 (by omega) (by decide) | with_reducible exact vi5p (by omega) (by decide) | trivial | exact vi0 (by decide) (by decide)) rfl rfl ?_
                    simp +decide only [z0, z1436, z1437, z1438, z1647, z1728, z1734, mi1 (n := s) (by omega), mi1p (b := s) (by omega), mi4 (a := s) (by omega), mi4p (a := s) (by omega), mi2 (a := s) (b := D) (by omega) (by omega), qg, hD]
                    simp (disch := omega) only [if_neg, hD, nI_1]
                    simp +decide only [z0, z1436, z1437, z1438, z1647, z1728, z1734, mi1 (n := s) (by omega), mi1p (b := s) (by omega), mi4 (a := s) (by omega), mi4p (a := s) (by omega), mi2 (a := s) (b := D) (by omega) (by omega)]
                    try simp (disch := omega) only [if_neg, nI_1]
                    exact zz_pq h (by simp [m_writes, nsv, h4, h16, m_wr, en, hn40, eX1, h243, zz_ixn (show s < 2147483648 by omega)]) (by simp [m_writes, nsv, h4, h16, m_wr, en, hn40, eX1, h243, ed, m_w3, eB, zz_ixn (show s < 2147483648 by omega)])
                  refine zz_pm [6, 4, 1, 0] rfl ?_
                  exact lp275 _ (by unfold m_w2; simp +decide only [z0, z1436, z1437, z1438, z1647, z1728, z1734, mi1 (n := s) (by omega), mi1p (b := s) (by omega), mi4 (a := s) (by omega), mi4p (a := s) (by omega)])
            refine zz_gx ok [100, 176, 275] rfl (by and_intros <;> first | exact True.intro | with_reducible exact v0 | with_reducible exact v1436 | with_reducible exact v1437 | with_reducible exact v1438 | with_reducible exact v1647 | with_reducible exact v1728 | with_reducible exact v1734 | with_reducible exact vi1 (by omega) (by decide) | with_reducible exact vi2 (by omega) (by decide) | with_reducible exact vi3 (by omega) (by decide) | with_reducible exact vi1p (by omega) (by decide) | with_reducible exact vi2p (by omega) (by decide) | with_reducible exact vi4 (by omega) (by decide) | with_reducible exact vi4p (by omega) (by decide) | with_reducible exact vi5 (by omega) (by decide) | with_reducible exact vi5p (by omega) (by decide) | trivial | exact vi0 (by decide) (by decide)) ?_
            refine zz_pm [9, 8, 6, 5, 4, 3, 2, 1, 0] rfl ?_
            simp +decide only [z0, z1436, z1437, z1438, z1647, z1728, z1734, mi1 (n := s) (by omega), mi1p (b := s) (by omega), mi4 (a := s) (by omega), mi4p (a := s) (by omega), mi5 (a := s) (b := n) (by omega) (by omega), mi5p (a := s) (b := n) (by omega) (by omega), qg]
            simp (disch := omega) only [if_neg, hn.1, nI_1]
            refine lp176 6 0 (by omega) (by omega) _ _ _ rfl (by rw [zz_it]; unfold m_w0; rw [en]) ?_ ?_ ?_
            · have := m_w0_mw (key := k) (val := v) hs (by omega) hm
              unfold m_w0 at this; rw [en] at this; exact this
            · intro i hi; rw [qg, if_neg (by omega), qg, if_neg (by omega), qg, if_neg (by omega), qg, if_neg (by omega), qg, if_neg (by omega)]
            · rw [qg, if_pos rfl]
          refine zz_gx ok [100, 176, 275] rfl trivial ?_
          refine zz_pm [5, 4, 3, 2, 1, 0] rfl ?_
          exact lp100 _ (by unfold m_st; rw [en]; rw [if_neg (fun z => hn0 z.1)])
