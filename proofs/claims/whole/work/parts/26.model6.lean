def m_ga (M : zM) (cr : Int32) (s v : Nat) : Int32 := if c_gone cr s v = true ∨ m_re M s v = false ∨ (¬ v = s ∧ ¬ q M (36 + v) < q M (36 + s) + 1) ∨ m_ir M s v = false then -1000 else if m_ip M s v = true then q M (46 + v) - m_ea M v else 0
def m_mc (M : zM) (cr : Int32) (s : Nat) (mine : Int32) : Nat → Int32
  | 0 => 0
  | k + 1 => m_mc M cr s mine k + (if ¬ m_ga M cr s k = -1000 ∧ ¬ mine < m_ga M cr s k then 1 else 0)
def m_mm (M : zM) (cr : Int32) (s k : Nat) : Int32 := if m_ga M cr s k = -1000 then 0 else m_mc M cr s (m_ga M cr s k) 5
def m_wt (M : zM) (cr : Int32) (s : Nat) : Nat → Int32
  | 0 => -1000
  | k + 1 => if ¬ m_mm M cr s k < 3 ∧ (m_wt M cr s k = -1000 ∨ m_ga M cr s k < m_wt M cr s k) then m_ga M cr s k else m_wt M cr s k
def m_waitFor (M : zM) (a : Int32) : Int32 := if nsv a then -1001 else m_wt M 0 (zz_ix a) 5
def m_mny (x : Int32) : Nat → Int32
  | 0 => 0
  | k + 1 => m_mny x k + (x >>> (nI k &&& 31) &&& 1)
def m_rs (M : zM) : Nat → Int32
  | 0 => 0
  | k + 1 => m_rs M k ||| (if m_ru M k = true then (1 : Int32) <<< (nI k &&& 31) else 0)
def m_sw (M : zM) (cr : Int32) : Nat → Nat → Bool
  | 0, _ => true
  | f + 1, s => if m_wt M cr s 5 = -1000 then m_sw M cr f (s + 1) else false
def m_l0 (run : Int32) (k : Nat) (b : Int32) : Bool := decide ((nI k &&& (run ^^^ -1)) = 0) && (decide (b = -1000) || decide (m_mny (nI k) 5 < m_mny b 5))
def m_lc (M : zM) (run : Int32) : Nat → Int32
  | 0 => -1000
  | k + 1 => if (m_l0 run k (m_lc M run k) && m_sw M (nI k) 5 0) = true then nI k else m_lc M run k
def m_lh (M : zM) (key : Int32) : Nat → Int32
  | 0 => -1000
  | k + 1 => if q M (1276 + 4 * k + 1) = key then q M (1276 + 4 * k + 2) else m_lh M key k
def m_sk (M : zM) (s : Nat) : Nat → Int32
  | 0 => 0
  | k + 1 => m_sk M s k + (if m_lv M s (nI k) 2000000000 (mn M (56 + s)) = m_lh M (nI k) (mn M 1436) then 0 else 1)
def m_staleKeys (M : zM) (a : Int32) : Int32 := if nsv a then -1001 else m_sk M (zz_ix a) 8
def m_k1 (M : zM) (s : Nat) : Nat → Nat → Bool
  | 0, _ => true
  | f + 1, k => if q M (476 + 160 * s + k) = q M (1276 + k) then m_k1 M s f (k + 1) else false
def m_k2 (M : zM) (s : Nat) (b : Bool) : Nat → Bool
  | 0 => b
  | k + 1 => m_k2 M s b k && (!decide (m_pt M s (k + 1) 0 < m_pt M s k 0) && decide (m_pt M s k 3 < m_pt M s (k + 1) 3))
def m_kp (M : zM) (s : Nat) : Bool := m_k2 M s (!decide (mn M 1436 < mn M (56 + s)) && m_k1 M s (4 * mn M (56 + s)) 0) (mn M (51 + s) - 1)
def m_hs (M : zM) : Nat → Int32
  | 0 => 0
  | k + 1 => m_hs M k ||| (if m_ha M k = true then (1 : Int32) <<< (nI k &&& 31) else 0)
def m_is (M : zM) : Nat → Bool
  | 0 => !decide (1 < m_mny (m_hs M 5) 5)
  | k + 1 => m_is M k && m_kp M k
def m_li (M : zM) (a : Nat) : Nat → Int32 → Int32
  | 0, x => x
  | c + 1, x => m_li M a c x + q M (11 + 5 * a + (a + 1 + c))
def m_lu (M : zM) : Nat → Int32
  | 0 => 0
  | a + 1 => m_li M a (4 - a) (m_lu M a)
def m_count (M : zM) (w : Int32) : Int32 := if w = 0 then q M 0 else if w = 1 then M.1 (6, 0, 0) 3 else if w = 2 then q M 1436 else if w = 3 then q M 1437 else if w = 4 then q M 1438 else if w = 5 then q M 1647 else if w = 6 then q M 1728 else if w = 7 then M.1 (6, 0, 0) 5 else if w = 8 then M.1 (6, 0, 0) 6 else if w = 9 then m_hs M 5 else if w = 10 then m_lu M 5 else -1001
def m_save (M : zM) (k : Int32) : Int32 × zM := if k < 0 ∨ 1 < k then (-1001, M) else (q M 0, zz_set (zz_cpy M (20, 0, 0) (21, 0, 0) 0 (1735 * zz_ix k) 1735) (22, 0, 0) (zz_ix k) 1)
def m_restore (M : zM) (k : Int32) : Int32 × zM := if k < 0 ∨ 1 < k then (-1001, M) else if M.1 (22, 0, 0) (zz_ix k) = 0 then (-1002, M) else (M.1 (21, 0, 0) (1735 * zz_ix k), zz_cpy M (21, 0, 0) (20, 0, 0) (1735 * zz_ix k) 0 1735)
def m_type (M : zM) (n : Nat) (l : Int32) : Int32 × zM := if l < 0 ∨ 127 < l then (-1001, M) else if n = 100 then (-1003, M) else (nI (n + 1), zz_set (zz_set M (23, 0, 0) n l) (6, 0, 0) 5 (nI (n + 1)))
def m_result (M : zM) (i : Int32) : Int32 := if i < 0 then -1001 else if i < M.1 (6, 0, 0) 6 then M.1 (24, 0, 0) (zz_ix i) else -1000
theorem mi6 {a b : Nat} (ha : a < 1000) (hb : b < 100000) (d : Nat) (hd : d ≤ 10000) : zz_ix (OfNat.ofNat d * nI a + nI b) = OfNat.ofNat d * a + b := by
  have h1 : d * a ≤ 10000 * 1000 := Nat.mul_le_mul hd (by omega)
  rw [ni_lit, ni_mul, nI_add]; exact zz_ixn (n := d * a + b) (by omega)
theorem vi6 {d a b N : Nat} (h : OfNat.ofNat d * a + b < N) (hN : N ≤ 100000) : vp_in (OfNat.ofNat d * nI a + nI b) N := by
  rw [ni_lit, ni_mul, nI_add]; exact ni_in h hN
theorem sp_Mo_grantsAfter {G : zG} {post : Option zV → zM → Prop} {M : zM} {s v : Nat} {a b : Int32} {cr : Int32} (hm : mw M) (hG : zz_go G) (ea : a = nI s) (hs : s < 5) (eb : b = nI v) (hv : v < 5) (h : post (some (.inl (m_ga M cr s v))) M) : zz_T G md_Mo_grantsAfter [.inr (.inr (6, 0, 0)), .inl a, .inl b, .inl cr] M post := by
  refine en_Mo_grantsAfter hG rfl (fun Z ok => ?_)
  subst ea; subst eb
  refine zz_b ok rfl trivial rfl (fun h6 => ?_) (fun h6 => ?_)
  · skip
    try simp +decide only [z0, z1436, z1437, z1438, z1647, z1728, z1734, mi1 (n := s) (by omega), mi1p (b := s) (by omega), mi4 (a := s) (by omega), mi4p (a := s) (by omega), mi1 (n := v) (by omega), mi1p (b := v) (by omega), mi4 (a := v) (by omega), mi4p (a := v) (by omega), mi2 (a := s) (b := v) (by omega) (by omega), mi2p (a := s) (b := v) (by omega) (by omega), mi2 (a := v) (b := s) (by omega) (by omega), mi2p (a := v) (b := s) (by omega) (by omega), qg] at h6 ⊢
    try simp (disch := omega) only [if_neg] at h6 ⊢
    have hg : c_gone cr s v = true := by simp [c_gone, h6]
    refine zz_b ok rfl trivial rfl (fun h27 => ?_) (fun h27 => ?_)
    · skip
      try simp +decide only [z0, z1436, z1437, z1438, z1647, z1728, z1734, mi1 (n := s) (by omega), mi1p (b := s) (by omega), mi4 (a := s) (by omega), mi4p (a := s) (by omega), mi1 (n := v) (by omega), mi1p (b := v) (by omega), mi4 (a := v) (by omega), mi4p (a := v) (by omega), mi2 (a := s) (b := v) (by omega) (by omega), mi2p (a := s) (b := v) (by omega) (by omega), mi2 (a := v) (b := s) (by omega) (by omega), mi2p (a := v) (b := s) (by omega) (by omega), qg] at h27 ⊢
      try simp (disch := omega) only [if_neg] at h27 ⊢
      rw [ni_eqn (by omega) (by omega)] at h27
      have hl : ¬ (¬ v = s ∧ ¬ q M (36 + v) < q M (36 + s) + 1) := fun z => z.1 h27
      refine zz_b ok rfl trivial rfl (fun h62 => ?_) (fun h62 => ?_)
      · skip
        exact absurd h62 (by decide)
      · skip
        try simp +decide only [z0, z1436, z1437, z1438, z1647, z1728, z1734, mi1 (n := s) (by omega), mi1p (b := s) (by omega), mi4 (a := s) (by omega), mi4p (a := s) (by omega), mi1 (n := v) (by omega), mi1p (b := v) (by omega), mi4 (a := v) (by omega), mi4p (a := v) (by omega), mi2 (a := s) (b := v) (by omega) (by omega), mi2p (a := s) (b := v) (by omega) (by omega), mi2 (a := v) (b := s) (by omega) (by omega), mi2p (a := v) (b := s) (by omega) (by omega), qg] at h62 ⊢
        try simp (disch := omega) only [if_neg] at h62 ⊢
        skip
        refine zz_i ok rfl trivial rfl rfl ?_
        try simp +decide only [z0, z1436, z1437, z1438, z1647, z1728, z1734, mi1 (n := s) (by omega), mi1p (b := s) (by omega), mi4 (a := s) (by omega), mi4p (a := s) (by omega), mi1 (n := v) (by omega), mi1p (b := v) (by omega), mi4 (a := v) (by omega), mi4p (a := v) (by omega), mi2 (a := s) (b := v) (by omega) (by omega), mi2p (a := s) (b := v) (by omega) (by omega), mi2 (a := v) (b := s) (by omega) (by omega), mi2p (a := v) (b := s) (by omega) (by omega), qg]
        try simp (disch := omega) only [if_neg]
        exact zz_pq h (by rw [m_ga, if_pos (Or.inl hg)]) rfl
    · skip
      try simp +decide only [z0, z1436, z1437, z1438, z1647, z1728, z1734, mi1 (n := s) (by omega), mi1p (b := s) (by omega), mi4 (a := s) (by omega), mi4p (a := s) (by omega), mi1 (n := v) (by omega), mi1p (b := v) (by omega), mi4 (a := v) (by omega), mi4p (a := v) (by omega), mi2 (a := s) (b := v) (by omega) (by omega), mi2p (a := s) (b := v) (by omega) (by omega), mi2 (a := v) (b := s) (by omega) (by omega), mi2p (a := v) (b := s) (by omega) (by omega), qg] at h27 ⊢
      try simp (disch := omega) only [if_neg] at h27 ⊢
      rw [ni_eqn (by omega) (by omega)] at h27
      refine zz_b ok rfl (by and_intros <;> first | exact True.intro | with_reducible exact v0 | with_reducible exact v1436 | with_reducible exact v1437 | with_reducible exact v1438 | with_reducible exact v1647 | with_reducible exact v1728 | with_reducible exact v1734 | with_reducible exact vi1 (by omega) (by decide) | with_reducible exact vi2 (by omega) (by decide) | with_reducible exact vi3 (by omega) (by decide) | with_reducible exact vi1p (by omega) (by decide) | with_reducible exact vi2p (by omega) (by decide) | with_reducible exact vi4 (by omega) (by decide) | with_reducible exact vi4p (by omega) (by decide) | with_reducible exact vi5 (by omega) (by decide) | with_reducible exact vi5p (by omega) (by decide) | trivial | exact vi0 (by decide) (by decide)) rfl (fun h50 => ?_) (fun h50 => ?_)
      · skip
        try simp +decide only [z0, z1436, z1437, z1438, z1647, z1728, z1734, mi1 (n := s) (by omega), mi1p (b := s) (by omega), mi4 (a := s) (by omega), mi4p (a := s) (by omega), mi1 (n := v) (by omega), mi1p (b := v) (by omega), mi4 (a := v) (by omega), mi4p (a := v) (by omega), mi2 (a := s) (b := v) (by omega) (by omega), mi2p (a := s) (b := v) (by omega) (by omega), mi2 (a := v) (b := s) (by omega) (by omega), mi2p (a := v) (b := s) (by omega) (by omega), qg] at h50 ⊢
        try simp (disch := omega) only [if_neg] at h50 ⊢
        have hl : ¬ (¬ v = s ∧ ¬ q M (36 + v) < q M (36 + s) + 1) := fun z => z.2 h50
        refine zz_b ok rfl trivial rfl (fun h62 => ?_) (fun h62 => ?_)
        · skip
          exact absurd h62 (by decide)
        · skip
          try simp +decide only [z0, z1436, z1437, z1438, z1647, z1728, z1734, mi1 (n := s) (by omega), mi1p (b := s) (by omega), mi4 (a := s) (by omega), mi4p (a := s) (by omega), mi1 (n := v) (by omega), mi1p (b := v) (by omega), mi4 (a := v) (by omega), mi4p (a := v) (by omega), mi2 (a := s) (b := v) (by omega) (by omega), mi2p (a := s) (b := v) (by omega) (by omega), mi2 (a := v) (b := s) (by omega) (by omega), mi2p (a := v) (b := s) (by omega) (by omega), qg] at h62 ⊢
          try simp (disch := omega) only [if_neg] at h62 ⊢
          skip
          refine zz_i ok rfl trivial rfl rfl ?_
          try simp +decide only [z0, z1436, z1437, z1438, z1647, z1728, z1734, mi1 (n := s) (by omega), mi1p (b := s) (by omega), mi4 (a := s) (by omega), mi4p (a := s) (by omega), mi1 (n := v) (by omega), mi1p (b := v) (by omega), mi4 (a := v) (by omega), mi4p (a := v) (by omega), mi2 (a := s) (b := v) (by omega) (by omega), mi2p (a := s) (b := v) (by omega) (by omega), mi2 (a := v) (b := s) (by omega) (by omega), mi2p (a := v) (b := s) (by omega) (by omega), qg]
          try simp (disch := omega) only [if_neg]
          exact zz_pq h (by rw [m_ga, if_pos (Or.inl hg)]) rfl
      · skip
        try simp +decide only [z0, z1436, z1437, z1438, z1647, z1728, z1734, mi1 (n := s) (by omega), mi1p (b := s) (by omega), mi4 (a := s) (by omega), mi4p (a := s) (by omega), mi1 (n := v) (by omega), mi1p (b := v) (by omega), mi4 (a := v) (by omega), mi4p (a := v) (by omega), mi2 (a := s) (b := v) (by omega) (by omega), mi2p (a := s) (b := v) (by omega) (by omega), mi2 (a := v) (b := s) (by omega) (by omega), mi2p (a := v) (b := s) (by omega) (by omega), qg] at h50 ⊢
        try simp (disch := omega) only [if_neg] at h50 ⊢
        have hl : ¬ v = s ∧ ¬ q M (36 + v) < q M (36 + s) + 1 := ⟨h27, h50⟩
        refine zz_b ok rfl trivial rfl (fun h62 => ?_) (fun h62 => ?_)
        · skip
          exact absurd h62 (by decide)
        · skip
          try simp +decide only [z0, z1436, z1437, z1438, z1647, z1728, z1734, mi1 (n := s) (by omega), mi1p (b := s) (by omega), mi4 (a := s) (by omega), mi4p (a := s) (by omega), mi1 (n := v) (by omega), mi1p (b := v) (by omega), mi4 (a := v) (by omega), mi4p (a := v) (by omega), mi2 (a := s) (b := v) (by omega) (by omega), mi2p (a := s) (b := v) (by omega) (by omega), mi2 (a := v) (b := s) (by omega) (by omega), mi2p (a := v) (b := s) (by omega) (by omega), qg] at h62 ⊢
          try simp (disch := omega) only [if_neg] at h62 ⊢
          skip
          refine zz_i ok rfl trivial rfl rfl ?_
          try simp +decide only [z0, z1436, z1437, z1438, z1647, z1728, z1734, mi1 (n := s) (by omega), mi1p (b := s) (by omega), mi4 (a := s) (by omega), mi4p (a := s) (by omega), mi1 (n := v) (by omega), mi1p (b := v) (by omega), mi4 (a := v) (by omega), mi4p (a := v) (by omega), mi2 (a := s) (b := v) (by omega) (by omega), mi2p (a := s) (b := v) (by omega) (by omega), mi2 (a := v) (b := s) (by omega) (by omega), mi2p (a := v) (b := s) (by omega) (by omega), qg]
          try simp (disch := omega) only [if_neg]
          exact zz_pq h (by rw [m_ga, if_pos (Or.inl hg)]) rfl
  · skip
    try simp +decide only [z0, z1436, z1437, z1438, z1647, z1728, z1734, mi1 (n := s) (by omega), mi1p (b := s) (by omega), mi4 (a := s) (by omega), mi4p (a := s) (by omega), mi1 (n := v) (by omega), mi1p (b := v) (by omega), mi4 (a := v) (by omega), mi4p (a := v) (by omega), mi2 (a := s) (b := v) (by omega) (by omega), mi2p (a := s) (b := v) (by omega) (by omega), mi2 (a := v) (b := s) (by omega) (by omega), mi2p (a := v) (b := s) (by omega) (by omega), qg] at h6 ⊢
    try simp (disch := omega) only [if_neg] at h6 ⊢
    refine zz_b ok rfl trivial rfl (fun h15 => ?_) (fun h15 => ?_)
    · skip
      try simp +decide only [z0, z1436, z1437, z1438, z1647, z1728, z1734, mi1 (n := s) (by omega), mi1p (b := s) (by omega), mi4 (a := s) (by omega), mi4p (a := s) (by omega), mi1 (n := v) (by omega), mi1p (b := v) (by omega), mi4 (a := v) (by omega), mi4p (a := v) (by omega), mi2 (a := s) (b := v) (by omega) (by omega), mi2p (a := s) (b := v) (by omega) (by omega), mi2 (a := v) (b := s) (by omega) (by omega), mi2p (a := v) (b := s) (by omega) (by omega), qg] at h15 ⊢
      try simp (disch := omega) only [if_neg] at h15 ⊢
      have hg : c_gone cr s v = true := by simp [c_gone, h15]
      refine zz_b ok rfl trivial rfl (fun h27 => ?_) (fun h27 => ?_)
      · skip
        try simp +decide only [z0, z1436, z1437, z1438, z1647, z1728, z1734, mi1 (n := s) (by omega), mi1p (b := s) (by omega), mi4 (a := s) (by omega), mi4p (a := s) (by omega), mi1 (n := v) (by omega), mi1p (b := v) (by omega), mi4 (a := v) (by omega), mi4p (a := v) (by omega), mi2 (a := s) (b := v) (by omega) (by omega), mi2p (a := s) (b := v) (by omega) (by omega), mi2 (a := v) (b := s) (by omega) (by omega), mi2p (a := v) (b := s) (by omega) (by omega), qg] at h27 ⊢
        try simp (disch := omega) only [if_neg] at h27 ⊢
        rw [ni_eqn (by omega) (by omega)] at h27
        have hl : ¬ (¬ v = s ∧ ¬ q M (36 + v) < q M (36 + s) + 1) := fun z => z.1 h27
        refine zz_b ok rfl trivial rfl (fun h62 => ?_) (fun h62 => ?_)
        · skip
          exact absurd h62 (by decide)
        · skip
          try simp +decide only [z0, z1436, z1437, z1438, z1647, z1728, z1734, mi1 (n := s) (by omega), mi1p (b := s) (by omega), mi4 (a := s) (by omega), mi4p (a := s) (by omega), mi1 (n := v) (by omega), mi1p (b := v) (by omega), mi4 (a := v) (by omega), mi4p (a := v) (by omega), mi2 (a := s) (b := v) (by omega) (by omega), mi2p (a := s) (b := v) (by omega) (by omega), mi2 (a := v) (b := s) (by omega) (by omega), mi2p (a := v) (b := s) (by omega) (by omega), qg] at h62 ⊢
          try simp (disch := omega) only [if_neg] at h62 ⊢
          skip
          refine zz_i ok rfl trivial rfl rfl ?_
          try simp +decide only [z0, z1436, z1437, z1438, z1647, z1728, z1734, mi1 (n := s) (by omega), mi1p (b := s) (by omega), mi4 (a := s) (by omega), mi4p (a := s) (by omega), mi1 (n := v) (by omega), mi1p (b := v) (by omega), mi4 (a := v) (by omega), mi4p (a := v) (by omega), mi2 (a := s) (b := v) (by omega) (by omega), mi2p (a := s) (b := v) (by omega) (by omega), mi2 (a := v) (b := s) (by omega) (by omega), mi2p (a := v) (b := s) (by omega) (by omega), qg]
          try simp (disch := omega) only [if_neg]
          exact zz_pq h (by rw [m_ga, if_pos (Or.inl hg)]) rfl
      · skip
        try simp +decide only [z0, z1436, z1437, z1438, z1647, z1728, z1734, mi1 (n := s) (by omega), mi1p (b := s) (by omega), mi4 (a := s) (by omega), mi4p (a := s) (by omega), mi1 (n := v) (by omega), mi1p (b := v) (by omega), mi4 (a := v) (by omega), mi4p (a := v) (by omega), mi2 (a := s) (b := v) (by omega) (by omega), mi2p (a := s) (b := v) (by omega) (by omega), mi2 (a := v) (b := s) (by omega) (by omega), mi2p (a := v) (b := s) (by omega) (by omega), qg] at h27 ⊢
        try simp (disch := omega) only [if_neg] at h27 ⊢
        rw [ni_eqn (by omega) (by omega)] at h27
        refine zz_b ok rfl (by and_intros <;> first | exact True.intro | with_reducible exact v0 | with_reducible exact v1436 | with_reducible exact v1437 | with_reducible exact v1438 | with_reducible exact v1647 | with_reducible exact v1728 | with_reducible exact v1734 | with_reducible exact vi1 (by omega) (by decide) | with_reducible exact vi2 (by omega) (by decide) | with_reducible exact vi3 (by omega) (by decide) | with_reducible exact vi1p (by omega) (by decide) | with_reducible exact vi2p (by omega) (by decide) | with_reducible exact vi4 (by omega) (by decide) | with_reducible exact vi4p (by omega) (by decide) | with_reducible exact vi5 (by omega) (by decide) | with_reducible exact vi5p (by omega) (by decide) | trivial | exact vi0 (by decide) (by decide)) rfl (fun h50 => ?_) (fun h50 => ?_)
        · skip
          try simp +decide only [z0, z1436, z1437, z1438, z1647, z1728, z1734, mi1 (n := s) (by omega), mi1p (b := s) (by omega), mi4 (a := s) (by omega), mi4p (a := s) (by omega), mi1 (n := v) (by omega), mi1p (b := v) (by omega), mi4 (a := v) (by omega), mi4p (a := v) (by omega), mi2 (a := s) (b := v) (by omega) (by omega), mi2p (a := s) (b := v) (by omega) (by omega), mi2 (a := v) (b := s) (by omega) (by omega), mi2p (a := v) (b := s) (by omega) (by omega), qg] at h50 ⊢
          try simp (disch := omega) only [if_neg] at h50 ⊢
          have hl : ¬ (¬ v = s ∧ ¬ q M (36 + v) < q M (36 + s) + 1) := fun z => z.2 h50
          refine zz_b ok rfl trivial rfl (fun h62 => ?_) (fun h62 => ?_)
          · skip
            exact absurd h62 (by decide)
          · skip
            try simp +decide only [z0, z1436, z1437, z1438, z1647, z1728, z1734, mi1 (n := s) (by omega), mi1p (b := s) (by omega), mi4 (a := s) (by omega), mi4p (a := s) (by omega), mi1 (n := v) (by omega), mi1p (b := v) (by omega), mi4 (a := v) (by omega), mi4p (a := v) (by omega), mi2 (a := s) (b := v) (by omega) (by omega), mi2p (a := s) (b := v) (by omega) (by omega), mi2 (a := v) (b := s) (by omega) (by omega), mi2p (a := v) (b := s) (by omega) (by omega), qg] at h62 ⊢
            try simp (disch := omega) only [if_neg] at h62 ⊢
            skip
            refine zz_i ok rfl trivial rfl rfl ?_
            try simp +decide only [z0, z1436, z1437, z1438, z1647, z1728, z1734, mi1 (n := s) (by omega), mi1p (b := s) (by omega), mi4 (a := s) (by omega), mi4p (a := s) (by omega), mi1 (n := v) (by omega), mi1p (b := v) (by omega), mi4 (a := v) (by omega), mi4p (a := v) (by omega), mi2 (a := s) (b := v) (by omega) (by omega), mi2p (a := s) (b := v) (by omega) (by omega), mi2 (a := v) (b := s) (by omega) (by omega), mi2p (a := v) (b := s) (by omega) (by omega), qg]
            try simp (disch := omega) only [if_neg]
            exact zz_pq h (by rw [m_ga, if_pos (Or.inl hg)]) rfl
        · skip
          try simp +decide only [z0, z1436, z1437, z1438, z1647, z1728, z1734, mi1 (n := s) (by omega), mi1p (b := s) (by omega), mi4 (a := s) (by omega), mi4p (a := s) (by omega), mi1 (n := v) (by omega), mi1p (b := v) (by omega), mi4 (a := v) (by omega), mi4p (a := v) (by omega), mi2 (a := s) (b := v) (by omega) (by omega), mi2p (a := s) (b := v) (by omega) (by omega), mi2 (a := v) (b := s) (by omega) (by omega), mi2p (a := v) (b := s) (by omega) (by omega), qg] at h50 ⊢
          try simp (disch := omega) only [if_neg] at h50 ⊢
          have hl : ¬ v = s ∧ ¬ q M (36 + v) < q M (36 + s) + 1 := ⟨h27, h50⟩
          refine zz_b ok rfl trivial rfl (fun h62 => ?_) (fun h62 => ?_)
          · skip
            exact absurd h62 (by decide)
          · skip
            try simp +decide only [z0, z1436, z1437, z1438, z1647, z1728, z1734, mi1 (n := s) (by omega), mi1p (b := s) (by omega), mi4 (a := s) (by omega), mi4p (a := s) (by omega), mi1 (n := v) (by omega), mi1p (b := v) (by omega), mi4 (a := v) (by omega), mi4p (a := v) (by omega), mi2 (a := s) (b := v) (by omega) (by omega), mi2p (a := s) (b := v) (by omega) (by omega), mi2 (a := v) (b := s) (by omega) (by omega), mi2p (a := v) (b := s) (by omega) (by omega), qg] at h62 ⊢
            try simp (disch := omega) only [if_neg] at h62 ⊢
            skip
            refine zz_i ok rfl trivial rfl rfl ?_
            try simp +decide only [z0, z1436, z1437, z1438, z1647, z1728, z1734, mi1 (n := s) (by omega), mi1p (b := s) (by omega), mi4 (a := s) (by omega), mi4p (a := s) (by omega), mi1 (n := v) (by omega), mi1p (b := v) (by omega), mi4 (a := v) (by omega), mi4p (a := v) (by omega), mi2 (a := s) (b := v) (by omega) (by omega), mi2p (a := s) (b := v) (by omega) (by omega), mi2 (a := v) (b := s) (by omega) (by omega), mi2p (a := v) (b := s) (by omega) (by omega), qg]
            try simp (disch := omega) only [if_neg]
            exact zz_pq h (by rw [m_ga, if_pos (Or.inl hg)]) rfl
    · skip
      try simp +decide only [z0, z1436, z1437, z1438, z1647, z1728, z1734, mi1 (n := s) (by omega), mi1p (b := s) (by omega), mi4 (a := s) (by omega), mi4p (a := s) (by omega), mi1 (n := v) (by omega), mi1p (b := v) (by omega), mi4 (a := v) (by omega), mi4p (a := v) (by omega), mi2 (a := s) (b := v) (by omega) (by omega), mi2p (a := s) (b := v) (by omega) (by omega), mi2 (a := v) (b := s) (by omega) (by omega), mi2p (a := v) (b := s) (by omega) (by omega), qg] at h15 ⊢
      try simp (disch := omega) only [if_neg] at h15 ⊢
      have hg : c_gone cr s v = false := by simp [c_gone, h6, h15]
      refine zz_b ok rfl trivial rfl (fun h27 => ?_) (fun h27 => ?_)
      · skip
        try simp +decide only [z0, z1436, z1437, z1438, z1647, z1728, z1734, mi1 (n := s) (by omega), mi1p (b := s) (by omega), mi4 (a := s) (by omega), mi4p (a := s) (by omega), mi1 (n := v) (by omega), mi1p (b := v) (by omega), mi4 (a := v) (by omega), mi4p (a := v) (by omega), mi2 (a := s) (b := v) (by omega) (by omega), mi2p (a := s) (b := v) (by omega) (by omega), mi2 (a := v) (b := s) (by omega) (by omega), mi2p (a := v) (b := s) (by omega) (by omega), qg] at h27 ⊢
        try simp (disch := omega) only [if_neg] at h27 ⊢
        rw [ni_eqn (by omega) (by omega)] at h27
        have hl : ¬ (¬ v = s ∧ ¬ q M (36 + v) < q M (36 + s) + 1) := fun z => z.1 h27
        refine zz_b ok rfl trivial rfl (fun h62 => ?_) (fun h62 => ?_)
        · skip
          try simp +decide only [z0, z1436, z1437, z1438, z1647, z1728, z1734, mi1 (n := s) (by omega), mi1p (b := s) (by omega), mi4 (a := s) (by omega), mi4p (a := s) (by omega), mi1 (n := v) (by omega), mi1p (b := v) (by omega), mi4 (a := v) (by omega), mi4p (a := v) (by omega), mi2 (a := s) (b := v) (by omega) (by omega), mi2p (a := s) (b := v) (by omega) (by omega), mi2 (a := v) (b := s) (by omega) (by omega), mi2p (a := v) (b := s) (by omega) (by omega), qg] at h62 ⊢
          try simp (disch := omega) only [if_neg] at h62 ⊢
          skip
          refine zz_cV ok rfl trivial rfl lk_Mo_68 ca_Mo_reaches rfl rfl rfl rfl rfl (sp_Mo_reaches hG rfl hs rfl hv ?_)
          try simp +decide only [z0, z1436, z1437, z1438, z1647, z1728, z1734, mi1 (n := s) (by omega), mi1p (b := s) (by omega), mi4 (a := s) (by omega), mi4p (a := s) (by omega), mi1 (n := v) (by omega), mi1p (b := v) (by omega), mi4 (a := v) (by omega), mi4p (a := v) (by omega), mi2 (a := s) (b := v) (by omega) (by omega), mi2p (a := s) (b := v) (by omega) (by omega), mi2 (a := v) (b := s) (by omega) (by omega), mi2p (a := v) (b := s) (by omega) (by omega), qg]
          try simp (disch := omega) only [if_neg]
          refine zz_b ok rfl trivial rfl (fun h71 => ?_) (fun h71 => ?_)
          · skip
            try simp +decide only [z0, z1436, z1437, z1438, z1647, z1728, z1734, mi1 (n := s) (by omega), mi1p (b := s) (by omega), mi4 (a := s) (by omega), mi4p (a := s) (by omega), mi1 (n := v) (by omega), mi1p (b := v) (by omega), mi4 (a := v) (by omega), mi4p (a := v) (by omega), mi2 (a := s) (b := v) (by omega) (by omega), mi2p (a := s) (b := v) (by omega) (by omega), mi2 (a := v) (b := s) (by omega) (by omega), mi2p (a := v) (b := s) (by omega) (by omega), qg] at h71 ⊢
            try simp (disch := omega) only [if_neg] at h71 ⊢
            simp only [zz_bi0, Bool.not_eq_false] at h71
            refine zz_i ok rfl trivial rfl rfl ?_
            try simp +decide only [z0, z1436, z1437, z1438, z1647, z1728, z1734, mi1 (n := s) (by omega), mi1p (b := s) (by omega), mi4 (a := s) (by omega), mi4p (a := s) (by omega), mi1 (n := v) (by omega), mi1p (b := v) (by omega), mi4 (a := v) (by omega), mi4p (a := v) (by omega), mi2 (a := s) (b := v) (by omega) (by omega), mi2p (a := s) (b := v) (by omega) (by omega), mi2 (a := v) (b := s) (by omega) (by omega), mi2p (a := v) (b := s) (by omega) (by omega), qg]
            try simp (disch := omega) only [if_neg]
            exact zz_pq h (by rw [m_ga, if_pos (Or.inr (Or.inl h71))]) rfl
          · skip
            try simp +decide only [z0, z1436, z1437, z1438, z1647, z1728, z1734, mi1 (n := s) (by omega), mi1p (b := s) (by omega), mi4 (a := s) (by omega), mi4p (a := s) (by omega), mi1 (n := v) (by omega), mi1p (b := v) (by omega), mi4 (a := v) (by omega), mi4p (a := v) (by omega), mi2 (a := s) (b := v) (by omega) (by omega), mi2p (a := s) (b := v) (by omega) (by omega), mi2 (a := v) (b := s) (by omega) (by omega), mi2p (a := v) (b := s) (by omega) (by omega), qg] at h71 ⊢
            try simp (disch := omega) only [if_neg] at h71 ⊢
            simp only [zz_bi0, Bool.not_eq_false] at h71
            refine zz_b ok rfl trivial rfl (fun h76 => ?_) (fun h76 => ?_)
            · skip
              try simp +decide only [z0, z1436, z1437, z1438, z1647, z1728, z1734, mi1 (n := s) (by omega), mi1p (b := s) (by omega), mi4 (a := s) (by omega), mi4p (a := s) (by omega), mi1 (n := v) (by omega), mi1p (b := v) (by omega), mi4 (a := v) (by omega), mi4p (a := v) (by omega), mi2 (a := s) (b := v) (by omega) (by omega), mi2p (a := s) (b := v) (by omega) (by omega), mi2 (a := v) (b := s) (by omega) (by omega), mi2p (a := v) (b := s) (by omega) (by omega), qg] at h76 ⊢
              try simp (disch := omega) only [if_neg] at h76 ⊢
              skip
              refine zz_cV ok rfl trivial rfl lk_Mo_75 ca_Mo_isRecent rfl rfl rfl rfl rfl (sp_Mo_isRecent hm hG rfl hs rfl hv ?_)
              try simp +decide only [z0, z1436, z1437, z1438, z1647, z1728, z1734, mi1 (n := s) (by omega), mi1p (b := s) (by omega), mi4 (a := s) (by omega), mi4p (a := s) (by omega), mi1 (n := v) (by omega), mi1p (b := v) (by omega), mi4 (a := v) (by omega), mi4p (a := v) (by omega), mi2 (a := s) (b := v) (by omega) (by omega), mi2p (a := s) (b := v) (by omega) (by omega), mi2 (a := v) (b := s) (by omega) (by omega), mi2p (a := v) (b := s) (by omega) (by omega), qg]
              try simp (disch := omega) only [if_neg]
              refine zz_b ok rfl trivial rfl (fun h85 => ?_) (fun h85 => ?_)
              · skip
                try simp +decide only [z0, z1436, z1437, z1438, z1647, z1728, z1734, mi1 (n := s) (by omega), mi1p (b := s) (by omega), mi4 (a := s) (by omega), mi4p (a := s) (by omega), mi1 (n := v) (by omega), mi1p (b := v) (by omega), mi4 (a := v) (by omega), mi4p (a := v) (by omega), mi2 (a := s) (b := v) (by omega) (by omega), mi2p (a := s) (b := v) (by omega) (by omega), mi2 (a := v) (b := s) (by omega) (by omega), mi2p (a := v) (b := s) (by omega) (by omega), qg] at h85 ⊢
                try simp (disch := omega) only [if_neg] at h85 ⊢
                simp only [zz_bi0, Bool.not_eq_false] at h85
                refine zz_i ok rfl trivial rfl rfl ?_
                try simp +decide only [z0, z1436, z1437, z1438, z1647, z1728, z1734, mi1 (n := s) (by omega), mi1p (b := s) (by omega), mi4 (a := s) (by omega), mi4p (a := s) (by omega), mi1 (n := v) (by omega), mi1p (b := v) (by omega), mi4 (a := v) (by omega), mi4p (a := v) (by omega), mi2 (a := s) (b := v) (by omega) (by omega), mi2p (a := s) (b := v) (by omega) (by omega), mi2 (a := v) (b := s) (by omega) (by omega), mi2p (a := v) (b := s) (by omega) (by omega), qg]
                try simp (disch := omega) only [if_neg]
                exact zz_pq h (by rw [m_ga, if_pos (Or.inr (Or.inr (Or.inr h85)))]) rfl
              · skip
                try simp +decide only [z0, z1436, z1437, z1438, z1647, z1728, z1734, mi1 (n := s) (by omega), mi1p (b := s) (by omega), mi4 (a := s) (by omega), mi4p (a := s) (by omega), mi1 (n := v) (by omega), mi1p (b := v) (by omega), mi4 (a := v) (by omega), mi4p (a := v) (by omega), mi2 (a := s) (b := v) (by omega) (by omega), mi2p (a := s) (b := v) (by omega) (by omega), mi2 (a := v) (b := s) (by omega) (by omega), mi2p (a := v) (b := s) (by omega) (by omega), qg] at h85 ⊢
                try simp (disch := omega) only [if_neg] at h85 ⊢
                simp only [zz_bi0, Bool.not_eq_false] at h85
                refine zz_cV ok rfl trivial rfl lk_Mo_72 ca_Mo_isPromised rfl rfl rfl rfl rfl (sp_Mo_isPromised hG rfl hs rfl hv ?_)
                try simp +decide only [z0, z1436, z1437, z1438, z1647, z1728, z1734, mi1 (n := s) (by omega), mi1p (b := s) (by omega), mi4 (a := s) (by omega), mi4p (a := s) (by omega), mi1 (n := v) (by omega), mi1p (b := v) (by omega), mi4 (a := v) (by omega), mi4p (a := v) (by omega), mi2 (a := s) (b := v) (by omega) (by omega), mi2p (a := s) (b := v) (by omega) (by omega), mi2 (a := v) (b := s) (by omega) (by omega), mi2p (a := v) (b := s) (by omega) (by omega), qg]
                try simp (disch := omega) only [if_neg]
                refine zz_b ok rfl trivial rfl (fun h98 => ?_) (fun h98 => ?_)
                · skip
                  try simp +decide only [z0, z1436, z1437, z1438, z1647, z1728, z1734, mi1 (n := s) (by omega), mi1p (b := s) (by omega), mi4 (a := s) (by omega), mi4p (a := s) (by omega), mi1 (n := v) (by omega), mi1p (b := v) (by omega), mi4 (a := v) (by omega), mi4p (a := v) (by omega), mi2 (a := s) (b := v) (by omega) (by omega), mi2p (a := s) (b := v) (by omega) (by omega), mi2 (a := v) (b := s) (by omega) (by omega), mi2p (a := v) (b := s) (by omega) (by omega), qg] at h98 ⊢
                  try simp (disch := omega) only [if_neg] at h98 ⊢
                  simp only [zz_bi0, Bool.not_eq_false] at h98
                  refine zz_i ok rfl trivial rfl rfl ?_
                  try simp +decide only [z0, z1436, z1437, z1438, z1647, z1728, z1734, mi1 (n := s) (by omega), mi1p (b := s) (by omega), mi4 (a := s) (by omega), mi4p (a := s) (by omega), mi1 (n := v) (by omega), mi1p (b := v) (by omega), mi4 (a := v) (by omega), mi4p (a := v) (by omega), mi2 (a := s) (b := v) (by omega) (by omega), mi2p (a := s) (b := v) (by omega) (by omega), mi2 (a := v) (b := s) (by omega) (by omega), mi2p (a := v) (b := s) (by omega) (by omega), qg]
                  try simp (disch := omega) only [if_neg]
                  have hno : ¬ (c_gone cr s v = true ∨ m_re M s v = false ∨ (¬ v = s ∧ ¬ q M (36 + v) < q M (36 + s) + 1) ∨ m_ir M s v = false) := by
                    rintro (z | z | z | z)
                    · rw [hg] at z; cases z
                    · rw [h71] at z; cases z
                    · exact hl z
                    · rw [h85] at z; cases z
                  exact zz_pq h (by rw [m_ga, if_neg hno, if_neg (by simp [h98])]) rfl
                · skip
                  try simp +decide only [z0, z1436, z1437, z1438, z1647, z1728, z1734, mi1 (n := s) (by omega), mi1p (b := s) (by omega), mi4 (a := s) (by omega), mi4p (a := s) (by omega), mi1 (n := v) (by omega), mi1p (b := v) (by omega), mi4 (a := v) (by omega), mi4p (a := v) (by omega), mi2 (a := s) (b := v) (by omega) (by omega), mi2p (a := s) (b := v) (by omega) (by omega), mi2 (a := v) (b := s) (by omega) (by omega), mi2p (a := v) (b := s) (by omega) (by omega), qg] at h98 ⊢
                  try simp (disch := omega) only [if_neg] at h98 ⊢
                  simp only [zz_bi0, Bool.not_eq_false] at h98
                  refine zz_cV ok rfl (by and_intros <;> first | exact True.intro | with_reducible exact v0 | with_reducible exact v1436 | with_reducible exact v1437 | with_reducible exact v1438 | with_reducible exact v1647 | with_reducible exact v1728 | with_reducible exact v1734 | with_reducible exact vi1 (by omega) (by decide) | with_reducible exact vi2 (by omega) (by decide) | with_reducible exact vi3 (by omega) (by decide) | with_reducible exact vi1p (by omega) (by decide) | with_reducible exact vi2p (by omega) (by decide) | with_reducible exact vi4 (by omega) (by decide) | with_reducible exact vi4p (by omega) (by decide) | with_reducible exact vi5 (by omega) (by decide) | with_reducible exact vi5p (by omega) (by decide) | trivial | exact vi0 (by decide) (by decide)) rfl lk_Mo_57 ca_Mo_earliest rfl rfl rfl rfl rfl (sp_Mo_earliest hG rfl hv ?_)
                  try simp +decide only [z0, z1436, z1437, z1438, z1647, z1728, z1734, mi1 (n := s) (by omega), mi1p (b := s) (by omega), mi4 (a := s) (by omega), mi4p (a := s) (by omega), mi1 (n := v) (by omega), mi1p (b := v) (by omega), mi4 (a := v) (by omega), mi4p (a := v) (by omega), mi2 (a := s) (b := v) (by omega) (by omega), mi2p (a := s) (b := v) (by omega) (by omega), mi2 (a := v) (b := s) (by omega) (by omega), mi2p (a := v) (b := s) (by omega) (by omega), qg]
                  try simp (disch := omega) only [if_neg]
                  refine zz_i ok rfl trivial rfl rfl ?_
                  try simp +decide only [z0, z1436, z1437, z1438, z1647, z1728, z1734, mi1 (n := s) (by omega), mi1p (b := s) (by omega), mi4 (a := s) (by omega), mi4p (a := s) (by omega), mi1 (n := v) (by omega), mi1p (b := v) (by omega), mi4 (a := v) (by omega), mi4p (a := v) (by omega), mi2 (a := s) (b := v) (by omega) (by omega), mi2p (a := s) (b := v) (by omega) (by omega), mi2 (a := v) (b := s) (by omega) (by omega), mi2p (a := v) (b := s) (by omega) (by omega), qg]
                  try simp (disch := omega) only [if_neg]
                  have hno : ¬ (c_gone cr s v = true ∨ m_re M s v = false ∨ (¬ v = s ∧ ¬ q M (36 + v) < q M (36 + s) + 1) ∨ m_ir M s v = false) := by
                    rintro (z | z | z | z)
                    · rw [hg] at z; cases z
                    · rw [h71] at z; cases z
                    · exact hl z
                    · rw [h85] at z; cases z
                  exact zz_pq h (by rw [m_ga, if_neg hno, if_pos h98]) rfl
            · skip
              exact absurd rfl h76
        · skip
          exact absurd rfl h62
      · skip
        try simp +decide only [z0, z1436, z1437, z1438, z1647, z1728, z1734, mi1 (n := s) (by omega), mi1p (b := s) (by omega), mi4 (a := s) (by omega), mi4p (a := s) (by omega), mi1 (n := v) (by omega), mi1p (b := v) (by omega), mi4 (a := v) (by omega), mi4p (a := v) (by omega), mi2 (a := s) (b := v) (by omega) (by omega), mi2p (a := s) (b := v) (by omega) (by omega), mi2 (a := v) (b := s) (by omega) (by omega), mi2p (a := v) (b := s) (by omega) (by omega), qg] at h27 ⊢
        try simp (disch := omega) only [if_neg] at h27 ⊢
        rw [ni_eqn (by omega) (by omega)] at h27
        refine zz_b ok rfl (by and_intros <;> first | exact True.intro | with_reducible exact v0 | with_reducible exact v1436 | with_reducible exact v1437 | with_reducible exact v1438 | with_reducible exact v1647 | with_reducible exact v1728 | with_reducible exact v1734 | with_reducible exact vi1 (by omega) (by decide) | with_reducible exact vi2 (by omega) (by decide) | with_reducible exact vi3 (by omega) (by decide) | with_reducible exact vi1p (by omega) (by decide) | with_reducible exact vi2p (by omega) (by decide) | with_reducible exact vi4 (by omega) (by decide) | with_reducible exact vi4p (by omega) (by decide) | with_reducible exact vi5 (by omega) (by decide) | with_reducible exact vi5p (by omega) (by decide) | trivial | exact vi0 (by decide) (by decide)) rfl (fun h50 => ?_) (fun h50 => ?_)
        · skip
          try simp +decide only [z0, z1436, z1437, z1438, z1647, z1728, z1734, mi1 (n := s) (by omega), mi1p (b := s) (by omega), mi4 (a := s) (by omega), mi4p (a := s) (by omega), mi1 (n := v) (by omega), mi1p (b := v) (by omega), mi4 (a := v) (by omega), mi4p (a := v) (by omega), mi2 (a := s) (b := v) (by omega) (by omega), mi2p (a := s) (b := v) (by omega) (by omega), mi2 (a := v) (b := s) (by omega) (by omega), mi2p (a := v) (b := s) (by omega) (by omega), qg] at h50 ⊢
          try simp (disch := omega) only [if_neg] at h50 ⊢
          have hl : ¬ (¬ v = s ∧ ¬ q M (36 + v) < q M (36 + s) + 1) := fun z => z.2 h50
          refine zz_b ok rfl trivial rfl (fun h62 => ?_) (fun h62 => ?_)
          · skip
            try simp +decide only [z0, z1436, z1437, z1438, z1647, z1728, z1734, mi1 (n := s) (by omega), mi1p (b := s) (by omega), mi4 (a := s) (by omega), mi4p (a := s) (by omega), mi1 (n := v) (by omega), mi1p (b := v) (by omega), mi4 (a := v) (by omega), mi4p (a := v) (by omega), mi2 (a := s) (b := v) (by omega) (by omega), mi2p (a := s) (b := v) (by omega) (by omega), mi2 (a := v) (b := s) (by omega) (by omega), mi2p (a := v) (b := s) (by omega) (by omega), qg] at h62 ⊢
            try simp (disch := omega) only [if_neg] at h62 ⊢
            skip
            refine zz_cV ok rfl trivial rfl lk_Mo_68 ca_Mo_reaches rfl rfl rfl rfl rfl (sp_Mo_reaches hG rfl hs rfl hv ?_)
            try simp +decide only [z0, z1436, z1437, z1438, z1647, z1728, z1734, mi1 (n := s) (by omega), mi1p (b := s) (by omega), mi4 (a := s) (by omega), mi4p (a := s) (by omega), mi1 (n := v) (by omega), mi1p (b := v) (by omega), mi4 (a := v) (by omega), mi4p (a := v) (by omega), mi2 (a := s) (b := v) (by omega) (by omega), mi2p (a := s) (b := v) (by omega) (by omega), mi2 (a := v) (b := s) (by omega) (by omega), mi2p (a := v) (b := s) (by omega) (by omega), qg]
            try simp (disch := omega) only [if_neg]
            refine zz_b ok rfl trivial rfl (fun h71 => ?_) (fun h71 => ?_)
            · skip
              try simp +decide only [z0, z1436, z1437, z1438, z1647, z1728, z1734, mi1 (n := s) (by omega), mi1p (b := s) (by omega), mi4 (a := s) (by omega), mi4p (a := s) (by omega), mi1 (n := v) (by omega), mi1p (b := v) (by omega), mi4 (a := v) (by omega), mi4p (a := v) (by omega), mi2 (a := s) (b := v) (by omega) (by omega), mi2p (a := s) (b := v) (by omega) (by omega), mi2 (a := v) (b := s) (by omega) (by omega), mi2p (a := v) (b := s) (by omega) (by omega), qg] at h71 ⊢
              try simp (disch := omega) only [if_neg] at h71 ⊢
              simp only [zz_bi0, Bool.not_eq_false] at h71
              refine zz_i ok rfl trivial rfl rfl ?_
              try simp +decide only [z0, z1436, z1437, z1438, z1647, z1728, z1734, mi1 (n := s) (by omega), mi1p (b := s) (by omega), mi4 (a := s) (by omega), mi4p (a := s) (by omega), mi1 (n := v) (by omega), mi1p (b := v) (by omega), mi4 (a := v) (by omega), mi4p (a := v) (by omega), mi2 (a := s) (b := v) (by omega) (by omega), mi2p (a := s) (b := v) (by omega) (by omega), mi2 (a := v) (b := s) (by omega) (by omega), mi2p (a := v) (b := s) (by omega) (by omega), qg]
              try simp (disch := omega) only [if_neg]
              exact zz_pq h (by rw [m_ga, if_pos (Or.inr (Or.inl h71))]) rfl
            · skip
              try simp +decide only [z0, z1436, z1437, z1438, z1647, z1728, z1734, mi1 (n := s) (by omega), mi1p (b := s) (by omega), mi4 (a := s) (by omega), mi4p (a := s) (by omega), mi1 (n := v) (by omega), mi1p (b := v) (by omega), mi4 (a := v) (by omega), mi4p (a := v) (by omega), mi2 (a := s) (b := v) (by omega) (by omega), mi2p (a := s) (b := v) (by omega) (by omega), mi2 (a := v) (b := s) (by omega) (by omega), mi2p (a := v) (b := s) (by omega) (by omega), qg] at h71 ⊢
              try simp (disch := omega) only [if_neg] at h71 ⊢
              simp only [zz_bi0, Bool.not_eq_false] at h71
              refine zz_b ok rfl trivial rfl (fun h76 => ?_) (fun h76 => ?_)
              · skip
                try simp +decide only [z0, z1436, z1437, z1438, z1647, z1728, z1734, mi1 (n := s) (by omega), mi1p (b := s) (by omega), mi4 (a := s) (by omega), mi4p (a := s) (by omega), mi1 (n := v) (by omega), mi1p (b := v) (by omega), mi4 (a := v) (by omega), mi4p (a := v) (by omega), mi2 (a := s) (b := v) (by omega) (by omega), mi2p (a := s) (b := v) (by omega) (by omega), mi2 (a := v) (b := s) (by omega) (by omega), mi2p (a := v) (b := s) (by omega) (by omega), qg] at h76 ⊢
                try simp (disch := omega) only [if_neg] at h76 ⊢
                skip
                refine zz_cV ok rfl trivial rfl lk_Mo_75 ca_Mo_isRecent rfl rfl rfl rfl rfl (sp_Mo_isRecent hm hG rfl hs rfl hv ?_)
                try simp +decide only [z0, z1436, z1437, z1438, z1647, z1728, z1734, mi1 (n := s) (by omega), mi1p (b := s) (by omega), mi4 (a := s) (by omega), mi4p (a := s) (by omega), mi1 (n := v) (by omega), mi1p (b := v) (by omega), mi4 (a := v) (by omega), mi4p (a := v) (by omega), mi2 (a := s) (b := v) (by omega) (by omega), mi2p (a := s) (b := v) (by omega) (by omega), mi2 (a := v) (b := s) (by omega) (by omega), mi2p (a := v) (b := s) (by omega) (by omega), qg]
                try simp (disch := omega) only [if_neg]
                refine zz_b ok rfl trivial rfl (fun h85 => ?_) (fun h85 => ?_)
                · skip
                  try simp +decide only [z0, z1436, z1437, z1438, z1647, z1728, z1734, mi1 (n := s) (by omega), mi1p (b := s) (by omega), mi4 (a := s) (by omega), mi4p (a := s) (by omega), mi1 (n := v) (by omega), mi1p (b := v) (by omega), mi4 (a := v) (by omega), mi4p (a := v) (by omega), mi2 (a := s) (b := v) (by omega) (by omega), mi2p (a := s) (b := v) (by omega) (by omega), mi2 (a := v) (b := s) (by omega) (by omega), mi2p (a := v) (b := s) (by omega) (by omega), qg] at h85 ⊢
                  try simp (disch := omega) only [if_neg] at h85 ⊢
                  simp only [zz_bi0, Bool.not_eq_false] at h85
                  refine zz_i ok rfl trivial rfl rfl ?_
                  try simp +decide only [z0, z1436, z1437, z1438, z1647, z1728, z1734, mi1 (n := s) (by omega), mi1p (b := s) (by omega), mi4 (a := s) (by omega), mi4p (a := s) (by omega), mi1 (n := v) (by omega), mi1p (b := v) (by omega), mi4 (a := v) (by omega), mi4p (a := v) (by omega), mi2 (a := s) (b := v) (by omega) (by omega), mi2p (a := s) (b := v) (by omega) (by omega), mi2 (a := v) (b := s) (by omega) (by omega), mi2p (a := v) (b := s) (by omega) (by omega), qg]
                  try simp (disch := omega) only [if_neg]
                  exact zz_pq h (by rw [m_ga, if_pos (Or.inr (Or.inr (Or.inr h85)))]) rfl
                · skip
                  try simp +decide only [z0, z1436, z1437, z1438, z1647, z1728, z1734, mi1 (n := s) (by omega), mi1p (b := s) (by omega), mi4 (a := s) (by omega), mi4p (a := s) (by omega), mi1 (n := v) (by omega), mi1p (b := v) (by omega), mi4 (a := v) (by omega), mi4p (a := v) (by omega), mi2 (a := s) (b := v) (by omega) (by omega), mi2p (a := s) (b := v) (by omega) (by omega), mi2 (a := v) (b := s) (by omega) (by omega), mi2p (a := v) (b := s) (by omega) (by omega), qg] at h85 ⊢
                  try simp (disch := omega) only [if_neg] at h85 ⊢
                  simp only [zz_bi0, Bool.not_eq_false] at h85
                  refine zz_cV ok rfl trivial rfl lk_Mo_72 ca_Mo_isPromised rfl rfl rfl rfl rfl (sp_Mo_isPromised hG rfl hs rfl hv ?_)
                  try simp +decide only [z0, z1436, z1437, z1438, z1647, z1728, z1734, mi1 (n := s) (by omega), mi1p (b := s) (by omega), mi4 (a := s) (by omega), mi4p (a := s) (by omega), mi1 (n := v) (by omega), mi1p (b := v) (by omega), mi4 (a := v) (by omega), mi4p (a := v) (by omega), mi2 (a := s) (b := v) (by omega) (by omega), mi2p (a := s) (b := v) (by omega) (by omega), mi2 (a := v) (b := s) (by omega) (by omega), mi2p (a := v) (b := s) (by omega) (by omega), qg]
                  try simp (disch := omega) only [if_neg]
                  refine zz_b ok rfl trivial rfl (fun h98 => ?_) (fun h98 => ?_)
                  · skip
                    try simp +decide only [z0, z1436, z1437, z1438, z1647, z1728, z1734, mi1 (n := s) (by omega), mi1p (b := s) (by omega), mi4 (a := s) (by omega), mi4p (a := s) (by omega), mi1 (n := v) (by omega), mi1p (b := v) (by omega), mi4 (a := v) (by omega), mi4p (a := v) (by omega), mi2 (a := s) (b := v) (by omega) (by omega), mi2p (a := s) (b := v) (by omega) (by omega), mi2 (a := v) (b := s) (by omega) (by omega), mi2p (a := v) (b := s) (by omega) (by omega), qg] at h98 ⊢
                    try simp (disch := omega) only [if_neg] at h98 ⊢
                    simp only [zz_bi0, Bool.not_eq_false] at h98
                    refine zz_i ok rfl trivial rfl rfl ?_
                    try simp +decide only [z0, z1436, z1437, z1438, z1647, z1728, z1734, mi1 (n := s) (by omega), mi1p (b := s) (by omega), mi4 (a := s) (by omega), mi4p (a := s) (by omega), mi1 (n := v) (by omega), mi1p (b := v) (by omega), mi4 (a := v) (by omega), mi4p (a := v) (by omega), mi2 (a := s) (b := v) (by omega) (by omega), mi2p (a := s) (b := v) (by omega) (by omega), mi2 (a := v) (b := s) (by omega) (by omega), mi2p (a := v) (b := s) (by omega) (by omega), qg]
                    try simp (disch := omega) only [if_neg]
                    have hno : ¬ (c_gone cr s v = true ∨ m_re M s v = false ∨ (¬ v = s ∧ ¬ q M (36 + v) < q M (36 + s) + 1) ∨ m_ir M s v = false) := by
                      rintro (z | z | z | z)
                      · rw [hg] at z; cases z
                      · rw [h71] at z; cases z
                      · exact hl z
                      · rw [h85] at z; cases z
                    exact zz_pq h (by rw [m_ga, if_neg hno, if_neg (by simp [h98])]) rfl
                  · skip
                    try simp +decide only [z0, z1436, z1437, z1438, z1647, z1728, z1734, mi1 (n := s) (by omega), mi1p (b := s) (by omega), mi4 (a := s) (by omega), mi4p (a := s) (by omega), mi1 (n := v) (by omega), mi1p (b := v) (by omega), mi4 (a := v) (by omega), mi4p (a := v) (by omega), mi2 (a := s) (b := v) (by omega) (by omega), mi2p (a := s) (b := v) (by omega) (by omega), mi2 (a := v) (b := s) (by omega) (by omega), mi2p (a := v) (b := s) (by omega) (by omega), qg] at h98 ⊢
                    try simp (disch := omega) only [if_neg] at h98 ⊢
                    simp only [zz_bi0, Bool.not_eq_false] at h98
                    refine zz_cV ok rfl (by and_intros <;> first | exact True.intro | with_reducible exact v0 | with_reducible exact v1436 | with_reducible exact v1437 | with_reducible exact v1438 | with_reducible exact v1647 | with_reducible exact v1728 | with_reducible exact v1734 | with_reducible exact vi1 (by omega) (by decide) | with_reducible exact vi2 (by omega) (by decide) | with_reducible exact vi3 (by omega) (by decide) | with_reducible exact vi1p (by omega) (by decide) | with_reducible exact vi2p (by omega) (by decide) | with_reducible exact vi4 (by omega) (by decide) | with_reducible exact vi4p (by omega) (by decide) | with_reducible exact vi5 (by omega) (by decide) | with_reducible exact vi5p (by omega) (by decide) | trivial | exact vi0 (by decide) (by decide)) rfl lk_Mo_57 ca_Mo_earliest rfl rfl rfl rfl rfl (sp_Mo_earliest hG rfl hv ?_)
                    try simp +decide only [z0, z1436, z1437, z1438, z1647, z1728, z1734, mi1 (n := s) (by omega), mi1p (b := s) (by omega), mi4 (a := s) (by omega), mi4p (a := s) (by omega), mi1 (n := v) (by omega), mi1p (b := v) (by omega), mi4 (a := v) (by omega), mi4p (a := v) (by omega), mi2 (a := s) (b := v) (by omega) (by omega), mi2p (a := s) (b := v) (by omega) (by omega), mi2 (a := v) (b := s) (by omega) (by omega), mi2p (a := v) (b := s) (by omega) (by omega), qg]
                    try simp (disch := omega) only [if_neg]
                    refine zz_i ok rfl trivial rfl rfl ?_
                    try simp +decide only [z0, z1436, z1437, z1438, z1647, z1728, z1734, mi1 (n := s) (by omega), mi1p (b := s) (by omega), mi4 (a := s) (by omega), mi4p (a := s) (by omega), mi1 (n := v) (by omega), mi1p (b := v) (by omega), mi4 (a := v) (by omega), mi4p (a := v) (by omega), mi2 (a := s) (b := v) (by omega) (by omega), mi2p (a := s) (b := v) (by omega) (by omega), mi2 (a := v) (b := s) (by omega) (by omega), mi2p (a := v) (b := s) (by omega) (by omega), qg]
                    try simp (disch := omega) only [if_neg]
                    have hno : ¬ (c_gone cr s v = true ∨ m_re M s v = false ∨ (¬ v = s ∧ ¬ q M (36 + v) < q M (36 + s) + 1) ∨ m_ir M s v = false) := by
                      rintro (z | z | z | z)
                      · rw [hg] at z; cases z
                      · rw [h71] at z; cases z
                      · exact hl z
                      · rw [h85] at z; cases z
                    exact zz_pq h (by rw [m_ga, if_neg hno, if_pos h98]) rfl
              · skip
                exact absurd rfl h76
          · skip
            exact absurd rfl h62
        · skip
          try simp +decide only [z0, z1436, z1437, z1438, z1647, z1728, z1734, mi1 (n := s) (by omega), mi1p (b := s) (by omega), mi4 (a := s) (by omega), mi4p (a := s) (by omega), mi1 (n := v) (by omega), mi1p (b := v) (by omega), mi4 (a := v) (by omega), mi4p (a := v) (by omega), mi2 (a := s) (b := v) (by omega) (by omega), mi2p (a := s) (b := v) (by omega) (by omega), mi2 (a := v) (b := s) (by omega) (by omega), mi2p (a := v) (b := s) (by omega) (by omega), qg] at h50 ⊢
          try simp (disch := omega) only [if_neg] at h50 ⊢
          have hl : ¬ v = s ∧ ¬ q M (36 + v) < q M (36 + s) + 1 := ⟨h27, h50⟩
          refine zz_b ok rfl trivial rfl (fun h62 => ?_) (fun h62 => ?_)
          · skip
            try simp +decide only [z0, z1436, z1437, z1438, z1647, z1728, z1734, mi1 (n := s) (by omega), mi1p (b := s) (by omega), mi4 (a := s) (by omega), mi4p (a := s) (by omega), mi1 (n := v) (by omega), mi1p (b := v) (by omega), mi4 (a := v) (by omega), mi4p (a := v) (by omega), mi2 (a := s) (b := v) (by omega) (by omega), mi2p (a := s) (b := v) (by omega) (by omega), mi2 (a := v) (b := s) (by omega) (by omega), mi2p (a := v) (b := s) (by omega) (by omega), qg] at h62 ⊢
            try simp (disch := omega) only [if_neg] at h62 ⊢
            skip
            refine zz_cV ok rfl trivial rfl lk_Mo_68 ca_Mo_reaches rfl rfl rfl rfl rfl (sp_Mo_reaches hG rfl hs rfl hv ?_)
            try simp +decide only [z0, z1436, z1437, z1438, z1647, z1728, z1734, mi1 (n := s) (by omega), mi1p (b := s) (by omega), mi4 (a := s) (by omega), mi4p (a := s) (by omega), mi1 (n := v) (by omega), mi1p (b := v) (by omega), mi4 (a := v) (by omega), mi4p (a := v) (by omega), mi2 (a := s) (b := v) (by omega) (by omega), mi2p (a := s) (b := v) (by omega) (by omega), mi2 (a := v) (b := s) (by omega) (by omega), mi2p (a := v) (b := s) (by omega) (by omega), qg]
            try simp (disch := omega) only [if_neg]
            refine zz_b ok rfl trivial rfl (fun h71 => ?_) (fun h71 => ?_)
            · skip
              try simp +decide only [z0, z1436, z1437, z1438, z1647, z1728, z1734, mi1 (n := s) (by omega), mi1p (b := s) (by omega), mi4 (a := s) (by omega), mi4p (a := s) (by omega), mi1 (n := v) (by omega), mi1p (b := v) (by omega), mi4 (a := v) (by omega), mi4p (a := v) (by omega), mi2 (a := s) (b := v) (by omega) (by omega), mi2p (a := s) (b := v) (by omega) (by omega), mi2 (a := v) (b := s) (by omega) (by omega), mi2p (a := v) (b := s) (by omega) (by omega), qg] at h71 ⊢
              try simp (disch := omega) only [if_neg] at h71 ⊢
              simp only [zz_bi0, Bool.not_eq_false] at h71
              refine zz_i ok rfl trivial rfl rfl ?_
              try simp +decide only [z0, z1436, z1437, z1438, z1647, z1728, z1734, mi1 (n := s) (by omega), mi1p (b := s) (by omega), mi4 (a := s) (by omega), mi4p (a := s) (by omega), mi1 (n := v) (by omega), mi1p (b := v) (by omega), mi4 (a := v) (by omega), mi4p (a := v) (by omega), mi2 (a := s) (b := v) (by omega) (by omega), mi2p (a := s) (b := v) (by omega) (by omega), mi2 (a := v) (b := s) (by omega) (by omega), mi2p (a := v) (b := s) (by omega) (by omega), qg]
              try simp (disch := omega) only [if_neg]
              exact zz_pq h (by rw [m_ga, if_pos (Or.inr (Or.inl h71))]) rfl
            · skip
              try simp +decide only [z0, z1436, z1437, z1438, z1647, z1728, z1734, mi1 (n := s) (by omega), mi1p (b := s) (by omega), mi4 (a := s) (by omega), mi4p (a := s) (by omega), mi1 (n := v) (by omega), mi1p (b := v) (by omega), mi4 (a := v) (by omega), mi4p (a := v) (by omega), mi2 (a := s) (b := v) (by omega) (by omega), mi2p (a := s) (b := v) (by omega) (by omega), mi2 (a := v) (b := s) (by omega) (by omega), mi2p (a := v) (b := s) (by omega) (by omega), qg] at h71 ⊢
              try simp (disch := omega) only [if_neg] at h71 ⊢
              simp only [zz_bi0, Bool.not_eq_false] at h71
              refine zz_b ok rfl trivial rfl (fun h76 => ?_) (fun h76 => ?_)
              · skip
                exact absurd h76 (by decide)
              · skip
                try simp +decide only [z0, z1436, z1437, z1438, z1647, z1728, z1734, mi1 (n := s) (by omega), mi1p (b := s) (by omega), mi4 (a := s) (by omega), mi4p (a := s) (by omega), mi1 (n := v) (by omega), mi1p (b := v) (by omega), mi4 (a := v) (by omega), mi4p (a := v) (by omega), mi2 (a := s) (b := v) (by omega) (by omega), mi2p (a := s) (b := v) (by omega) (by omega), mi2 (a := v) (b := s) (by omega) (by omega), mi2p (a := v) (b := s) (by omega) (by omega), qg] at h76 ⊢
                try simp (disch := omega) only [if_neg] at h76 ⊢
                skip
                refine zz_i ok rfl trivial rfl rfl ?_
                try simp +decide only [z0, z1436, z1437, z1438, z1647, z1728, z1734, mi1 (n := s) (by omega), mi1p (b := s) (by omega), mi4 (a := s) (by omega), mi4p (a := s) (by omega), mi1 (n := v) (by omega), mi1p (b := v) (by omega), mi4 (a := v) (by omega), mi4p (a := v) (by omega), mi2 (a := s) (b := v) (by omega) (by omega), mi2p (a := s) (b := v) (by omega) (by omega), mi2 (a := v) (b := s) (by omega) (by omega), mi2p (a := v) (b := s) (by omega) (by omega), qg]
                try simp (disch := omega) only [if_neg]
                exact zz_pq h (by rw [m_ga, if_pos (Or.inr (Or.inr (Or.inl hl)))]) rfl
          · skip
            exact absurd rfl h62
theorem sp_Mo_waits {G : zG} {post : Option zV → zM → Prop} {M : zM} {s : Nat} {a cr : Int32} (hm : mw M) (hG : zz_go G) (ea : a = nI s) (hs : s < 5) (h : post (some (.inl (m_wt M cr s 5))) M) : zz_T G md_Mo_waits [.inr (.inr (6, 0, 0)), .inl a, .inl cr] M post := by
  refine en_Mo_waits hG rfl (fun Z ok => ?_)
  subst ea
  have lp7 : ∀ (f k : Nat), 5 - k < f → k ≤ 5 → ∀ (x4 x3 : Int32), x4 = nI k → x3 = m_wt M cr s k → zz_W G Z md_Mo_waits post 7 [(4, .inl x4), (3, .inl x3), (2, .inl cr), (1, .inl (nI s)), (0, .inr (.inr (6, 0, 0)))] [] M := by
    intro f
    induction f with
    | zero => intro k hf; exact absurd hf (Nat.not_lt_zero _)
    | succ f ih => ?_
    intro k hf hk x4 x3 e4 e3
    subst e4; subst e3
    refine zz_b ok rfl trivial rfl (fun h10 => ?_) (fun h10 => ?_)
    · skip
      rw [ni_lit, ni_ltn (by omega) (by decide)] at h10
      have hk5 : k < 5 := h10
      refine zz_cV ok rfl trivial rfl lk_Mo_110 ca_Mo_grantsAfter rfl rfl rfl rfl rfl (sp_Mo_grantsAfter hm hG rfl hs rfl hk5 ?_)
      have lp29 : ∀ (g j : Nat), 5 - j < g → j ≤ 5 → ∀ (x7 x6 : Int32), x7 = nI j → (m_ga M cr s k = -1000 ∧ x6 = 0 ∨ ¬ m_ga M cr s k = -1000 ∧ x6 = m_mc M cr s (m_ga M cr s k) j) → zz_W G Z md_Mo_waits post 29 [(7, .inl x7), (6, .inl x6), (5, .inl (m_ga M cr s k)), (4, .inl (nI k)), (3, .inl (m_wt M cr s k)), (2, .inl cr), (1, .inl (nI s)), (0, .inr (.inr (6, 0, 0)))] [] M := by
        intro g
        induction g with
        | zero => intro j hg; exact absurd hg (Nat.not_lt_zero _)
        | succ g ih2 => ?_
        intro j hg hj x7 x6 e7 hx
        subst e7
        refine zz_b ok rfl trivial rfl (fun h32 => ?_) (fun h32 => ?_)
        · skip
          rw [ni_lit, ni_ltn (by omega) (by decide)] at h32
          have hj5 : j < 5 := h32
          refine zz_b ok rfl trivial rfl (fun h40 => ?_) (fun h40 => ?_)
          · skip
            have hmm : m_mm M cr s k = x6 := by
              unfold m_mm
              rcases hx with z | z
              · rw [if_pos z.1, z.2]
              · exact absurd h40 z.1
            refine zz_b ok rfl trivial rfl (fun h87 => ?_) (fun h87 => ?_)
            · skip
              refine zz_g ok rfl trivial ?_
              refine zz_pm [4, 3, 2, 1, 0] rfl ?_
              exact ih (k + 1) (by omega) (by omega) _ _ (nI_1 k) (by rw [m_wt, hmm, if_neg (fun z => z.1 h87)])
            · skip
              refine zz_b ok rfl trivial rfl (fun h94 => ?_) (fun h94 => ?_)
              · skip
                refine zz_g ok rfl trivial ?_
                refine zz_pm [4, 3, 2, 1, 0] rfl ?_
                exact ih (k + 1) (by omega) (by omega) _ _ (nI_1 k) (by rw [m_wt, hmm, if_pos ⟨h87, Or.inl h94⟩])
              · skip
                refine zz_b ok rfl trivial rfl (fun h100 => ?_) (fun h100 => ?_)
                · skip
                  refine zz_g ok rfl trivial ?_
                  refine zz_pm [4, 3, 2, 1, 0] rfl ?_
                  exact ih (k + 1) (by omega) (by omega) _ _ (nI_1 k) (by rw [m_wt, hmm, if_pos ⟨h87, Or.inr h100⟩])
                · skip
                  refine zz_g ok rfl trivial ?_
                  refine zz_pm [4, 3, 2, 1, 0] rfl ?_
                  exact ih (k + 1) (by omega) (by omega) _ _ (nI_1 k) (by rw [m_wt, hmm, if_neg (fun z => z.2.elim h94 h100)])
          · skip
            have hx2 := (hx.resolve_left (fun z => h40 z.1)).2
            refine zz_cV ok rfl trivial rfl lk_Mo_110 ca_Mo_grantsAfter rfl rfl rfl rfl rfl (sp_Mo_grantsAfter hm hG rfl hs rfl hj5 ?_)
            refine zz_b ok rfl trivial rfl (fun h60 => ?_) (fun h60 => ?_)
            · skip
              refine zz_g ok rfl trivial ?_
              refine zz_pm [7, 6, 5, 4, 3, 2, 1, 0] rfl ?_
              exact ih2 (j + 1) (by omega) (by omega) _ _ (nI_1 j) (Or.inr ⟨h40, by rw [m_mc, if_neg (fun z => z.1 h60), hx2]⟩)
            · skip
              refine zz_b ok rfl trivial rfl (fun h67 => ?_) (fun h67 => ?_)
              · skip
                refine zz_g ok rfl trivial ?_
                refine zz_pm [7, 6, 5, 4, 3, 2, 1, 0] rfl ?_
                exact ih2 (j + 1) (by omega) (by omega) _ _ (nI_1 j) (Or.inr ⟨h40, by rw [m_mc, if_neg (fun z => z.2 h67), hx2]⟩)
              · skip
                refine zz_g ok rfl trivial ?_
                refine zz_pm [7, 6, 5, 4, 3, 2, 1, 0] rfl ?_
                exact ih2 (j + 1) (by omega) (by omega) _ _ (nI_1 j) (Or.inr ⟨h40, by rw [m_mc, if_pos ⟨h60, h67⟩, hx2]⟩)
        · skip
          rw [ni_lit, ni_ltn (by omega) (by decide)] at h32
          have hj6 : j = 5 := by omega
          subst hj6
          have hmm : m_mm M cr s k = x6 := by
            unfold m_mm
            rcases hx with z | z
            · rw [if_pos z.1, z.2]
            · rw [if_neg z.1, z.2]
          refine zz_b ok rfl trivial rfl (fun h87 => ?_) (fun h87 => ?_)
          · skip
            refine zz_g ok rfl trivial ?_
            refine zz_pm [4, 3, 2, 1, 0] rfl ?_
            exact ih (k + 1) (by omega) (by omega) _ _ (nI_1 k) (by rw [m_wt, hmm, if_neg (fun z => z.1 h87)])
          · skip
            refine zz_b ok rfl trivial rfl (fun h94 => ?_) (fun h94 => ?_)
            · skip
              refine zz_g ok rfl trivial ?_
              refine zz_pm [4, 3, 2, 1, 0] rfl ?_
              exact ih (k + 1) (by omega) (by omega) _ _ (nI_1 k) (by rw [m_wt, hmm, if_pos ⟨h87, Or.inl h94⟩])
            · skip
              refine zz_b ok rfl trivial rfl (fun h100 => ?_) (fun h100 => ?_)
              · skip
                refine zz_g ok rfl trivial ?_
                refine zz_pm [4, 3, 2, 1, 0] rfl ?_
                exact ih (k + 1) (by omega) (by omega) _ _ (nI_1 k) (by rw [m_wt, hmm, if_pos ⟨h87, Or.inr h100⟩])
              · skip
                refine zz_g ok rfl trivial ?_
                refine zz_pm [4, 3, 2, 1, 0] rfl ?_
                exact ih (k + 1) (by omega) (by omega) _ _ (nI_1 k) (by rw [m_wt, hmm, if_neg (fun z => z.2.elim h94 h100)])
      refine zz_g ok rfl trivial ?_
      refine zz_pm [7, 6, 5, 4, 3, 2, 1, 0] rfl ?_
      exact lp29 6 0 (by omega) (by omega) _ _ rfl (by
        by_cases z : m_ga M cr s k = -1000
        · exact Or.inl ⟨z, rfl⟩
        · exact Or.inr ⟨z, rfl⟩)
    · skip
      rw [ni_lit, ni_ltn (by omega) (by decide)] at h10
      have hk6 : k = 5 := by omega
      subst hk6
      refine zz_i ok rfl trivial rfl rfl ?_
      exact h
  refine zz_g ok rfl trivial ?_
  refine zz_pm [4, 3, 2, 1, 0] rfl ?_
  exact lp7 6 0 (by omega) (by omega) _ _ rfl rfl
theorem sp_Mo_waitFor {G : zG} {post : Option zV → zM → Prop} {M : zM} {a : Int32} (hm : mw M) (hG : zz_go G) (h : post (some (.inl (m_waitFor M a))) M) : zz_T G md_Mo_waitFor [.inr (.inr (6, 0, 0)), .inl a] M post := by
  refine en_Mo_waitFor hG rfl (fun Z ok => ?_)
  refine zz_cS ok rfl trivial rfl lk_Mo_54 ca_Mo_isServer rfl rfl rfl (sp_Mo_isServer hG ?_)
  try simp +decide only [mi0, mi1 (n := s) (by omega)]
  refine zz_b ok rfl trivial rfl (fun h4 => ?_) (fun h4 => ?_)
  · skip
    try simp +decide only [mi0, mi1 (n := s) (by omega)] at h4 ⊢
    have h4 := wi_of h4
    refine zz_i ok rfl trivial rfl rfl ?_
    exact zz_pq h (by simp [m_waitFor, nsv, h4]) rfl
  · skip
    try simp +decide only [mi0, mi1 (n := s) (by omega)] at h4 ⊢
    have h4 := wi_nof h4
    obtain ⟨s, hs, rfl⟩ := ni_w (N := 4) (by decide) h4.1 h4.2
    refine zz_cV ok rfl trivial rfl lk_Mo_113 ca_Mo_waits rfl rfl rfl rfl rfl (sp_Mo_waits hm hG rfl hs ?_)
    try simp +decide only [mi0, mi1 (n := s) (by omega)]
    refine zz_i ok rfl trivial rfl rfl ?_
    exact zz_pq h (by simp [m_waitFor, nsv, zz_ixn (show s < 2147483648 by omega), mi1 (n := s) (by omega), h4]) rfl
theorem sp_Mo_many {G : zG} {post : Option zV → zM → Prop} {M : zM} {x : Int32} (hG : zz_go G) (h : post (some (.inl (m_mny x 5))) M) : zz_T G md_Mo_many [.inl x] M post := by
  refine en_Mo_many hG rfl (fun Z ok => ?_)
  have lp4 : ∀ (f k : Nat), 5 - k < f → k ≤ 5 → ∀ (x2 x1 : Int32), x2 = nI k → x1 = m_mny x k → zz_W G Z md_Mo_many post 4 [(2, .inl x2), (1, .inl x1), (0, .inl x)] [] M := by
    intro f
    induction f with
    | zero => intro k hf; exact absurd hf (Nat.not_lt_zero _)
    | succ f ih => ?_
    intro k hf hk x2 x1 e2 e1
    subst e2; subst e1
    refine zz_b ok rfl trivial rfl (fun h6 => ?_) (fun h6 => ?_)
    · skip
      rw [ni_lit, ni_ltn (by omega) (by decide)] at h6
      have hk5 : k < 5 := h6
      refine zz_g ok rfl trivial ?_
      refine zz_pm [2, 1, 0] rfl ?_
      exact ih (k + 1) (by omega) (by omega) _ _ (nI_1 k) rfl
    · skip
      rw [ni_lit, ni_ltn (by omega) (by decide)] at h6
      have hk6 : k = 5 := by omega
      subst hk6
      refine zz_i ok rfl trivial rfl rfl ?_
      exact h
  refine zz_g ok rfl trivial ?_
  refine zz_pm [2, 1, 0] rfl ?_
  exact lp4 6 0 (by omega) (by omega) _ _ rfl rfl
theorem sp_Mo_holders {G : zG} {post : Option zV → zM → Prop} {M : zM} (hG : zz_go G) (h : post (some (.inl (m_hs M 5))) M) : zz_T G md_Mo_holders [.inr (.inr (6, 0, 0))] M post := by
  refine en_Mo_holders hG rfl (fun Z ok => ?_)
  have lp4 : ∀ (f k : Nat), 5 - k < f → k ≤ 5 → ∀ (x2 x1 : Int32), x2 = nI k → x1 = m_hs M k → zz_W G Z md_Mo_holders post 4 [(2, .inl x2), (1, .inl x1), (0, .inr (.inr (6, 0, 0)))] [] M := by
    intro f
    induction f with
    | zero => intro k hf; exact absurd hf (Nat.not_lt_zero _)
    | succ f ih => ?_
    intro k hf hk x2 x1 e2 e1
    subst e2; subst e1
    refine zz_b ok rfl trivial rfl (fun h6 => ?_) (fun h6 => ?_)
    · skip
      rw [ni_lit, ni_ltn (by omega) (by decide)] at h6
      have hk5 : k < 5 := h6
      refine zz_cV ok rfl trivial rfl lk_Mo_81 ca_Mo_hasIt rfl rfl rfl rfl rfl (sp_Mo_hasIt hG rfl hk5 ?_)
      refine zz_b ok rfl trivial rfl (fun h15 => ?_) (fun h15 => ?_)
      · skip
        simp only [zz_bi0, Bool.not_eq_false] at h15
        refine zz_g ok rfl trivial ?_
        refine zz_pm [2, 1, 0] rfl ?_
        exact ih (k + 1) (by omega) (by omega) _ _ (nI_1 k) (by rw [m_hs, if_neg (by simp [h15])])
      · skip
        simp only [zz_bi0, Bool.not_eq_false] at h15
        refine zz_g ok rfl trivial ?_
        refine zz_pm [2, 1, 0] rfl ?_
        exact ih (k + 1) (by omega) (by omega) _ _ (nI_1 k) (by rw [m_hs, if_pos h15])
    · skip
      rw [ni_lit, ni_ltn (by omega) (by decide)] at h6
      have hk6 : k = 5 := by omega
      subst hk6
      refine zz_i ok rfl trivial rfl rfl ?_
      exact h
  refine zz_g ok rfl trivial ?_
  refine zz_pm [2, 1, 0] rfl ?_
  exact lp4 6 0 (by omega) (by omega) _ _ rfl rfl
theorem sp_Mo_leastCrashes {G : zG} {post : Option zV → zM → Prop} {M : zM} (hm : mw M) (hG : zz_go G) (h : post (some (.inl (m_lc M (m_rs M 5) 32))) M) : zz_T G md_Mo_leastCrashes [.inr (.inr (6, 0, 0))] M post := by
  refine en_Mo_leastCrashes hG rfl (fun Z ok => ?_)
  have lp4 : ∀ (f k : Nat), 5 - k < f → k ≤ 5 → ∀ (x2 x1 : Int32), x2 = nI k → x1 = m_rs M k → zz_W G Z md_Mo_leastCrashes post 4 [(2, .inl x2), (1, .inl x1), (0, .inr (.inr (6, 0, 0)))] [] M := by
    intro f
    induction f with
    | zero => intro k hf; exact absurd hf (Nat.not_lt_zero _)
    | succ f ih => ?_
    intro k hf hk x2 x1 e2 e1
    subst e2; subst e1
    refine zz_b ok rfl trivial rfl (fun h6 => ?_) (fun h6 => ?_)
    · skip
      rw [ni_lit, ni_ltn (by omega) (by decide)] at h6
      have hk5 : k < 5 := h6
      refine zz_cV ok rfl trivial rfl lk_Mo_40 ca_Mo_runs rfl rfl rfl rfl rfl (sp_Mo_runs hG rfl hk5 ?_)
      refine zz_b ok rfl trivial rfl (fun h15 => ?_) (fun h15 => ?_)
      · skip
        simp only [zz_bi0, Bool.not_eq_false] at h15
        refine zz_g ok rfl trivial ?_
        refine zz_pm [2, 1, 0] rfl ?_
        exact ih (k + 1) (by omega) (by omega) _ _ (nI_1 k) (by rw [m_rs, if_neg (by simp [h15])])
      · skip
        simp only [zz_bi0, Bool.not_eq_false] at h15
        refine zz_g ok rfl trivial ?_
        refine zz_pm [2, 1, 0] rfl ?_
        exact ih (k + 1) (by omega) (by omega) _ _ (nI_1 k) (by rw [m_rs, if_pos h15])
    · skip
      rw [ni_lit, ni_ltn (by omega) (by decide)] at h6
      have hk6 : k = 5 := by omega
      subst hk6
      have lp39 : ∀ (g j : Nat), 32 - j < g → j ≤ 32 → ∀ (x3 x2 : Int32), x3 = nI j → x2 = m_lc M (m_rs M 5) j → zz_W G Z md_Mo_leastCrashes post 39 [(3, .inl x3), (2, .inl x2), (1, .inl (m_rs M 5)), (0, .inr (.inr (6, 0, 0)))] [] M := by
        intro g
        induction g with
        | zero => intro j hg; exact absurd hg (Nat.not_lt_zero _)
        | succ g ih2 => ?_
        intro j hg hj x3 x2 e3 e2
        subst e3; subst e2
        refine zz_b ok rfl trivial rfl (fun h42 => ?_) (fun h42 => ?_)
        · skip
          rw [ni_lit, ni_ltn (by omega) (by decide)] at h42
          refine zz_b ok rfl trivial rfl (fun h50 => ?_) (fun h50 => ?_)
          · skip
            refine zz_b ok rfl trivial rfl (fun h57 => ?_) (fun h57 => ?_)
            · skip
              have lp81 : ∀ (g2 i : Nat), 5 - i < g2 → i ≤ 5 → ∀ (x5 x4 : Int32) (b : Bool), x5 = nI i → x4 = zz_bi b → (m_l0 (m_rs M 5) j (m_lc M (m_rs M 5) j) && m_sw M (nI j) 5 0) = (b && m_sw M (nI j) (5 - i) i) → zz_W G Z md_Mo_leastCrashes post 81 [(5, .inl x5), (4, .inl x4), (3, .inl (nI j)), (2, .inl (m_lc M (m_rs M 5) j)), (1, .inl (m_rs M 5)), (0, .inr (.inr (6, 0, 0)))] [] M := by
                intro g2
                induction g2 with
                | zero => intro i hg; exact absurd hg (Nat.not_lt_zero _)
                | succ g2 ih3 => ?_
                intro i hg2 hi x5 x4 b e5 e4 hb
                subst e5; subst e4
                refine zz_b ok rfl trivial rfl (fun h84 => ?_) (fun h84 => ?_)
                · skip
                  rw [ni_lit, ni_ltn (by omega) (by decide)] at h84
                  have hi5 : i < 5 := h84
                  refine zz_b ok rfl trivial rfl (fun h89 => ?_) (fun h89 => ?_)
                  · skip
                    simp only [zz_bi0, Bool.not_eq_false] at h89
                    have hb2 := hb
                    rw [h89, Bool.false_and] at hb2
                    refine zz_b ok rfl trivial rfl (fun h120 => ?_) (fun h120 => ?_)
                    · skip
                      have hb0 := True.intro
                      refine zz_g ok rfl trivial ?_
                      refine zz_pm [3, 2, 1, 0] rfl ?_
                      exact ih2 (j + 1) (by omega) (by omega) _ _ (nI_1 j) (by rw [m_lc, if_neg (by rw [hb2]; simp [hb0])])
                    · skip
                      exact absurd (by rw [h89]; rfl) h120
                  · skip
                    simp only [zz_bi0, Bool.not_eq_false] at h89
                    refine zz_cV ok rfl trivial rfl lk_Mo_113 ca_Mo_waits rfl rfl rfl rfl rfl (sp_Mo_waits hm hG rfl hi5 ?_)
                    refine zz_b ok rfl trivial rfl (fun h102 => ?_) (fun h102 => ?_)
                    · skip
                      refine zz_g ok rfl trivial ?_
                      refine zz_pm [5, 4, 3, 2, 1, 0] rfl ?_
                      exact ih3 (i + 1) (by omega) (by omega) _ _ true (nI_1 i) rfl (by rw [hb, h89, show 5 - i = (5 - (i + 1)) + 1 by omega, m_sw, if_pos h102])
                    · skip
                      refine zz_g ok rfl trivial ?_
                      refine zz_pm [5, 4, 3, 2, 1, 0] rfl ?_
                      exact ih3 (i + 1) (by omega) (by omega) _ _ false (nI_1 i) rfl (by rw [hb, h89, show 5 - i = (5 - (i + 1)) + 1 by omega, m_sw, if_neg h102]; simp [h102])
                · skip
                  rw [ni_lit, ni_ltn (by omega) (by decide)] at h84
                  have hi6 : i = 5 := by omega
                  subst hi6
                  have hb2 := hb
                  rw [Nat.sub_self, m_sw, Bool.and_true] at hb2
                  refine zz_b ok rfl trivial rfl (fun h120 => ?_) (fun h120 => ?_)
                  · skip
                    simp only [zz_bi0, Bool.not_eq_false] at h120
                    have hb0 := h120
                    rw [h120] at hb2
                    refine zz_g ok rfl trivial ?_
                    refine zz_pm [3, 2, 1, 0] rfl ?_
                    exact ih2 (j + 1) (by omega) (by omega) _ _ (nI_1 j) (by rw [m_lc, if_neg (by rw [hb2]; simp [hb0])])
                  · skip
                    simp only [zz_bi0, Bool.not_eq_false] at h120
                    have hb0 := h120
                    rw [h120] at hb2
                    refine zz_g ok rfl trivial ?_
                    refine zz_pm [3, 2, 1, 0] rfl ?_
                    exact ih2 (j + 1) (by omega) (by omega) _ _ (nI_1 j) (by rw [m_lc, if_pos hb2])
              refine zz_g ok rfl trivial ?_
              refine zz_pm [5, 4, 3, 2, 1, 0] rfl ?_
              exact lp81 6 0 (by omega) (by omega) _ _ true rfl rfl (by unfold m_l0; rw [decide_eq_true h50]; simp [h57])
            · skip
              refine zz_cS ok rfl trivial rfl lk_Mo_116 ca_Mo_many rfl rfl rfl (sp_Mo_many hG ?_)
              refine zz_cS ok rfl trivial rfl lk_Mo_116 ca_Mo_many rfl rfl rfl (sp_Mo_many hG ?_)
              refine zz_b ok rfl trivial rfl (fun h68 => ?_) (fun h68 => ?_)
              · skip
                have lp81 : ∀ (g2 i : Nat), 5 - i < g2 → i ≤ 5 → ∀ (x5 x4 : Int32) (b : Bool), x5 = nI i → x4 = zz_bi b → (m_l0 (m_rs M 5) j (m_lc M (m_rs M 5) j) && m_sw M (nI j) 5 0) = (b && m_sw M (nI j) (5 - i) i) → zz_W G Z md_Mo_leastCrashes post 81 [(5, .inl x5), (4, .inl x4), (3, .inl (nI j)), (2, .inl (m_lc M (m_rs M 5) j)), (1, .inl (m_rs M 5)), (0, .inr (.inr (6, 0, 0)))] [] M := by
                  intro g2
                  induction g2 with
                  | zero => intro i hg; exact absurd hg (Nat.not_lt_zero _)
                  | succ g2 ih3 => ?_
                  intro i hg2 hi x5 x4 b e5 e4 hb
                  subst e5; subst e4
                  refine zz_b ok rfl trivial rfl (fun h84 => ?_) (fun h84 => ?_)
                  · skip
                    rw [ni_lit, ni_ltn (by omega) (by decide)] at h84
                    have hi5 : i < 5 := h84
                    refine zz_b ok rfl trivial rfl (fun h89 => ?_) (fun h89 => ?_)
                    · skip
                      simp only [zz_bi0, Bool.not_eq_false] at h89
                      have hb2 := hb
                      rw [h89, Bool.false_and] at hb2
                      refine zz_b ok rfl trivial rfl (fun h120 => ?_) (fun h120 => ?_)
                      · skip
                        have hb0 := True.intro
                        refine zz_g ok rfl trivial ?_
                        refine zz_pm [3, 2, 1, 0] rfl ?_
                        exact ih2 (j + 1) (by omega) (by omega) _ _ (nI_1 j) (by rw [m_lc, if_neg (by rw [hb2]; simp [hb0])])
                      · skip
                        exact absurd (by rw [h89]; rfl) h120
                    · skip
                      simp only [zz_bi0, Bool.not_eq_false] at h89
                      refine zz_cV ok rfl trivial rfl lk_Mo_113 ca_Mo_waits rfl rfl rfl rfl rfl (sp_Mo_waits hm hG rfl hi5 ?_)
                      refine zz_b ok rfl trivial rfl (fun h102 => ?_) (fun h102 => ?_)
                      · skip
                        refine zz_g ok rfl trivial ?_
                        refine zz_pm [5, 4, 3, 2, 1, 0] rfl ?_
                        exact ih3 (i + 1) (by omega) (by omega) _ _ true (nI_1 i) rfl (by rw [hb, h89, show 5 - i = (5 - (i + 1)) + 1 by omega, m_sw, if_pos h102])
                      · skip
                        refine zz_g ok rfl trivial ?_
                        refine zz_pm [5, 4, 3, 2, 1, 0] rfl ?_
                        exact ih3 (i + 1) (by omega) (by omega) _ _ false (nI_1 i) rfl (by rw [hb, h89, show 5 - i = (5 - (i + 1)) + 1 by omega, m_sw, if_neg h102]; simp [h102])
                  · skip
                    rw [ni_lit, ni_ltn (by omega) (by decide)] at h84
                    have hi6 : i = 5 := by omega
                    subst hi6
                    have hb2 := hb
                    rw [Nat.sub_self, m_sw, Bool.and_true] at hb2
                    refine zz_b ok rfl trivial rfl (fun h120 => ?_) (fun h120 => ?_)
                    · skip
                      simp only [zz_bi0, Bool.not_eq_false] at h120
                      have hb0 := h120
                      rw [h120] at hb2
                      refine zz_g ok rfl trivial ?_
                      refine zz_pm [3, 2, 1, 0] rfl ?_
                      exact ih2 (j + 1) (by omega) (by omega) _ _ (nI_1 j) (by rw [m_lc, if_neg (by rw [hb2]; simp [hb0])])
                    · skip
                      simp only [zz_bi0, Bool.not_eq_false] at h120
                      have hb0 := h120
                      rw [h120] at hb2
                      refine zz_g ok rfl trivial ?_
                      refine zz_pm [3, 2, 1, 0] rfl ?_
                      exact ih2 (j + 1) (by omega) (by omega) _ _ (nI_1 j) (by rw [m_lc, if_pos hb2])
                refine zz_g ok rfl trivial ?_
                refine zz_pm [5, 4, 3, 2, 1, 0] rfl ?_
                exact lp81 6 0 (by omega) (by omega) _ _ true rfl rfl (by unfold m_l0; rw [decide_eq_true h50]; simp [h57, h68])
              · skip
                have lp81 : ∀ (g2 i : Nat), 5 - i < g2 → i ≤ 5 → ∀ (x5 x4 : Int32) (b : Bool), x5 = nI i → x4 = zz_bi b → (m_l0 (m_rs M 5) j (m_lc M (m_rs M 5) j) && m_sw M (nI j) 5 0) = (b && m_sw M (nI j) (5 - i) i) → zz_W G Z md_Mo_leastCrashes post 81 [(5, .inl x5), (4, .inl x4), (3, .inl (nI j)), (2, .inl (m_lc M (m_rs M 5) j)), (1, .inl (m_rs M 5)), (0, .inr (.inr (6, 0, 0)))] [] M := by
                  intro g2
                  induction g2 with
                  | zero => intro i hg; exact absurd hg (Nat.not_lt_zero _)
                  | succ g2 ih3 => ?_
                  intro i hg2 hi x5 x4 b e5 e4 hb
                  subst e5; subst e4
                  refine zz_b ok rfl trivial rfl (fun h84 => ?_) (fun h84 => ?_)
                  · skip
                    rw [ni_lit, ni_ltn (by omega) (by decide)] at h84
                    have hi5 : i < 5 := h84
                    refine zz_b ok rfl trivial rfl (fun h89 => ?_) (fun h89 => ?_)
                    · skip
                      simp only [zz_bi0, Bool.not_eq_false] at h89
                      have hb2 := hb
                      rw [h89, Bool.false_and] at hb2
                      refine zz_b ok rfl trivial rfl (fun h120 => ?_) (fun h120 => ?_)
                      · skip
                        have hb0 := True.intro
                        refine zz_g ok rfl trivial ?_
                        refine zz_pm [3, 2, 1, 0] rfl ?_
                        exact ih2 (j + 1) (by omega) (by omega) _ _ (nI_1 j) (by rw [m_lc, if_neg (by rw [hb2]; simp [hb0])])
                      · skip
                        exact absurd (by rw [h89]; rfl) h120
                    · skip
                      simp only [zz_bi0, Bool.not_eq_false] at h89
                      refine zz_cV ok rfl trivial rfl lk_Mo_113 ca_Mo_waits rfl rfl rfl rfl rfl (sp_Mo_waits hm hG rfl hi5 ?_)
                      refine zz_b ok rfl trivial rfl (fun h102 => ?_) (fun h102 => ?_)
                      · skip
                        refine zz_g ok rfl trivial ?_
                        refine zz_pm [5, 4, 3, 2, 1, 0] rfl ?_
                        exact ih3 (i + 1) (by omega) (by omega) _ _ true (nI_1 i) rfl (by rw [hb, h89, show 5 - i = (5 - (i + 1)) + 1 by omega, m_sw, if_pos h102])
                      · skip
                        refine zz_g ok rfl trivial ?_
                        refine zz_pm [5, 4, 3, 2, 1, 0] rfl ?_
                        exact ih3 (i + 1) (by omega) (by omega) _ _ false (nI_1 i) rfl (by rw [hb, h89, show 5 - i = (5 - (i + 1)) + 1 by omega, m_sw, if_neg h102]; simp [h102])
                  · skip
                    rw [ni_lit, ni_ltn (by omega) (by decide)] at h84
                    have hi6 : i = 5 := by omega
                    subst hi6
                    have hb2 := hb
                    rw [Nat.sub_self, m_sw, Bool.and_true] at hb2
                    refine zz_b ok rfl trivial rfl (fun h120 => ?_) (fun h120 => ?_)
                    · skip
                      simp only [zz_bi0, Bool.not_eq_false] at h120
                      have hb0 := h120
                      rw [h120] at hb2
                      refine zz_g ok rfl trivial ?_
                      refine zz_pm [3, 2, 1, 0] rfl ?_
                      exact ih2 (j + 1) (by omega) (by omega) _ _ (nI_1 j) (by rw [m_lc, if_neg (by rw [hb2]; simp [hb0])])
                    · skip
                      simp only [zz_bi0, Bool.not_eq_false] at h120
                      have hb0 := h120
                      rw [h120] at hb2
                      refine zz_g ok rfl trivial ?_
                      refine zz_pm [3, 2, 1, 0] rfl ?_
                      exact ih2 (j + 1) (by omega) (by omega) _ _ (nI_1 j) (by rw [m_lc, if_pos hb2])
                refine zz_g ok rfl trivial ?_
                refine zz_pm [5, 4, 3, 2, 1, 0] rfl ?_
                exact lp81 6 0 (by omega) (by omega) _ _ false rfl rfl (by unfold m_l0; rw [decide_eq_true h50]; simp [h57, h68])
          · skip
            have lp81 : ∀ (g2 i : Nat), 5 - i < g2 → i ≤ 5 → ∀ (x5 x4 : Int32) (b : Bool), x5 = nI i → x4 = zz_bi b → (m_l0 (m_rs M 5) j (m_lc M (m_rs M 5) j) && m_sw M (nI j) 5 0) = (b && m_sw M (nI j) (5 - i) i) → zz_W G Z md_Mo_leastCrashes post 81 [(5, .inl x5), (4, .inl x4), (3, .inl (nI j)), (2, .inl (m_lc M (m_rs M 5) j)), (1, .inl (m_rs M 5)), (0, .inr (.inr (6, 0, 0)))] [] M := by
              intro g2
              induction g2 with
              | zero => intro i hg; exact absurd hg (Nat.not_lt_zero _)
              | succ g2 ih3 => ?_
              intro i hg2 hi x5 x4 b e5 e4 hb
              subst e5; subst e4
              refine zz_b ok rfl trivial rfl (fun h84 => ?_) (fun h84 => ?_)
              · skip
                rw [ni_lit, ni_ltn (by omega) (by decide)] at h84
                have hi5 : i < 5 := h84
                refine zz_b ok rfl trivial rfl (fun h89 => ?_) (fun h89 => ?_)
                · skip
                  simp only [zz_bi0, Bool.not_eq_false] at h89
                  have hb2 := hb
                  rw [h89, Bool.false_and] at hb2
                  refine zz_b ok rfl trivial rfl (fun h120 => ?_) (fun h120 => ?_)
                  · skip
                    have hb0 := True.intro
                    refine zz_g ok rfl trivial ?_
                    refine zz_pm [3, 2, 1, 0] rfl ?_
                    exact ih2 (j + 1) (by omega) (by omega) _ _ (nI_1 j) (by rw [m_lc, if_neg (by rw [hb2]; simp [hb0])])
                  · skip
                    exact absurd (by rw [h89]; rfl) h120
                · skip
                  simp only [zz_bi0, Bool.not_eq_false] at h89
                  refine zz_cV ok rfl trivial rfl lk_Mo_113 ca_Mo_waits rfl rfl rfl rfl rfl (sp_Mo_waits hm hG rfl hi5 ?_)
                  refine zz_b ok rfl trivial rfl (fun h102 => ?_) (fun h102 => ?_)
                  · skip
                    refine zz_g ok rfl trivial ?_
                    refine zz_pm [5, 4, 3, 2, 1, 0] rfl ?_
                    exact ih3 (i + 1) (by omega) (by omega) _ _ true (nI_1 i) rfl (by rw [hb, h89, show 5 - i = (5 - (i + 1)) + 1 by omega, m_sw, if_pos h102])
                  · skip
                    refine zz_g ok rfl trivial ?_
                    refine zz_pm [5, 4, 3, 2, 1, 0] rfl ?_
                    exact ih3 (i + 1) (by omega) (by omega) _ _ false (nI_1 i) rfl (by rw [hb, h89, show 5 - i = (5 - (i + 1)) + 1 by omega, m_sw, if_neg h102]; simp [h102])
              · skip
                rw [ni_lit, ni_ltn (by omega) (by decide)] at h84
                have hi6 : i = 5 := by omega
                subst hi6
                have hb2 := hb
                rw [Nat.sub_self, m_sw, Bool.and_true] at hb2
                refine zz_b ok rfl trivial rfl (fun h120 => ?_) (fun h120 => ?_)
                · skip
                  simp only [zz_bi0, Bool.not_eq_false] at h120
                  have hb0 := h120
                  rw [h120] at hb2
                  refine zz_g ok rfl trivial ?_
                  refine zz_pm [3, 2, 1, 0] rfl ?_
                  exact ih2 (j + 1) (by omega) (by omega) _ _ (nI_1 j) (by rw [m_lc, if_neg (by rw [hb2]; simp [hb0])])
                · skip
                  simp only [zz_bi0, Bool.not_eq_false] at h120
                  have hb0 := h120
                  rw [h120] at hb2
                  refine zz_g ok rfl trivial ?_
                  refine zz_pm [3, 2, 1, 0] rfl ?_
                  exact ih2 (j + 1) (by omega) (by omega) _ _ (nI_1 j) (by rw [m_lc, if_pos hb2])
            refine zz_g ok rfl trivial ?_
            refine zz_pm [5, 4, 3, 2, 1, 0] rfl ?_
            exact lp81 6 0 (by omega) (by omega) _ _ false rfl rfl (by unfold m_l0; rw [decide_eq_false h50]; simp)
        · skip
          rw [ni_lit, ni_ltn (by omega) (by decide)] at h42
          have hj6 : j = 32 := by omega
          subst hj6
          refine zz_i ok rfl trivial rfl rfl ?_
          exact h
      refine zz_g ok rfl trivial ?_
      refine zz_pm [3, 2, 1, 0] rfl ?_
      exact lp39 33 0 (by omega) (by omega) _ _ rfl rfl
  refine zz_g ok rfl trivial ?_
  refine zz_pm [2, 1, 0] rfl ?_
  exact lp4 6 0 (by omega) (by omega) _ _ rfl rfl
theorem sp_Mo_lastInHistory {G : zG} {post : Option zV → zM → Prop} {M : zM} {key : Int32} (hm : mw M) (hG : zz_go G) (h : post (some (.inl (m_lh M key (mn M 1436)))) M) : zz_T G md_Mo_lastInHistory [.inr (.inr (6, 0, 0)), .inl key] M post := by
  refine en_Mo_lastInHistory hG rfl (fun Z ok => ?_)
  have hh := mw_hist hm
  have lp6 : ∀ (f k : Nat), mn M 1436 - k < f → k ≤ mn M 1436 → ∀ (x3 x2 : Int32), x3 = nI k → x2 = m_lh M key k → zz_W G Z md_Mo_lastInHistory post 6 [(3, .inl x3), (2, .inl x2), (1, .inl key), (0, .inr (.inr (6, 0, 0)))] [] M := by
    intro f
    induction f with
    | zero => intro k hf; exact absurd hf (Nat.not_lt_zero _)
    | succ f ih => ?_
    intro k hf hk x3 x2 e3 e2
    subst e3; subst e2
    refine zz_b ok rfl (by and_intros <;> first | exact True.intro | with_reducible exact v0 | with_reducible exact v1436 | with_reducible exact v1437 | with_reducible exact v1438 | with_reducible exact v1647 | with_reducible exact v1728 | with_reducible exact v1734 | with_reducible exact vi1 (by omega) (by decide) | with_reducible exact vi2 (by omega) (by decide) | with_reducible exact vi3 (by omega) (by decide) | with_reducible exact vi1p (by omega) (by decide) | with_reducible exact vi2p (by omega) (by decide) | with_reducible exact vi4 (by omega) (by decide) | with_reducible exact vi4p (by omega) (by decide) | with_reducible exact vi5 (by omega) (by decide) | with_reducible exact vi5p (by omega) (by decide) | trivial | exact vi0 (by decide) (by decide)) rfl (fun h15 => ?_) (fun h15 => ?_)
    · skip
      try simp +decide only [z1436] at h15 ⊢
      rw [hh.1, ni_ltn (by omega) (by omega)] at h15
      refine zz_b ok rfl (by and_intros <;> first | exact True.intro | with_reducible exact v0 | with_reducible exact v1436 | with_reducible exact v1437 | with_reducible exact v1438 | with_reducible exact v1647 | with_reducible exact v1728 | with_reducible exact v1734 | with_reducible exact vi1 (by omega) (by decide) | with_reducible exact vi2 (by omega) (by decide) | with_reducible exact vi3 (by omega) (by decide) | with_reducible exact vi1p (by omega) (by decide) | with_reducible exact vi2p (by omega) (by decide) | with_reducible exact vi4 (by omega) (by decide) | with_reducible exact vi4p (by omega) (by decide) | with_reducible exact vi5 (by omega) (by decide) | with_reducible exact vi5p (by omega) (by decide) | trivial | exact vi0 (by decide) (by decide)) rfl (fun h33 => ?_) (fun h33 => ?_)
      · skip
        try simp +decide only [z1436] at h33 ⊢
        simp +decide only [mi4p (a := k) (by omega)] at h33
        refine zz_g ok rfl (by and_intros <;> first | exact True.intro | with_reducible exact v0 | with_reducible exact v1436 | with_reducible exact v1437 | with_reducible exact v1438 | with_reducible exact v1647 | with_reducible exact v1728 | with_reducible exact v1734 | with_reducible exact vi1 (by omega) (by decide) | with_reducible exact vi2 (by omega) (by decide) | with_reducible exact vi3 (by omega) (by decide) | with_reducible exact vi1p (by omega) (by decide) | with_reducible exact vi2p (by omega) (by decide) | with_reducible exact vi4 (by omega) (by decide) | with_reducible exact vi4p (by omega) (by decide) | with_reducible exact vi5 (by omega) (by decide) | with_reducible exact vi5p (by omega) (by decide) | trivial | exact vi0 (by decide) (by decide)) ?_
        refine zz_pm [3, 2, 1, 0] rfl ?_
        try simp +decide only [mi4p (a := k) (by omega)]
        exact ih (k + 1) (by omega) (by omega) _ _ (nI_1 k) (by rw [m_lh, if_pos h33])
      · skip
        try simp +decide only [z1436] at h33 ⊢
        simp +decide only [mi4p (a := k) (by omega)] at h33
        refine zz_g ok rfl trivial ?_
        refine zz_pm [3, 2, 1, 0] rfl ?_
        try simp +decide only [mi4p (a := k) (by omega)]
        exact ih (k + 1) (by omega) (by omega) _ _ (nI_1 k) (by rw [m_lh, if_neg h33])
    · skip
      try simp +decide only [z1436] at h15 ⊢
      rw [hh.1, ni_ltn (by omega) (by omega)] at h15
      have hkn : k = mn M 1436 := by omega
      subst hkn
      refine zz_i ok rfl trivial rfl rfl ?_
      exact h
  refine zz_g ok rfl trivial ?_
  refine zz_pm [3, 2, 1, 0] rfl ?_
  exact lp6 (mn M 1436 + 1) 0 (by omega) (by omega) _ _ rfl rfl
theorem sp_Mo_staleKeys {G : zG} {post : Option zV → zM → Prop} {M : zM} {a : Int32} (hm : mw M) (hG : zz_go G) (h : post (some (.inl (m_staleKeys M a))) M) : zz_T G md_Mo_staleKeys [.inr (.inr (6, 0, 0)), .inl a] M post := by
  refine en_Mo_staleKeys hG rfl (fun Z ok => ?_)
  refine zz_cS ok rfl trivial rfl lk_Mo_54 ca_Mo_isServer rfl rfl rfl (sp_Mo_isServer hG ?_)
  try simp +decide only [z0, z1436, z1437, z1438, z1647, z1728, z1734, mi1 (n := s) (by omega), mi1p (b := s) (by omega), mi4 (a := s) (by omega), mi4p (a := s) (by omega), qg]
  try simp (disch := omega) only [if_neg]
  refine zz_b ok rfl trivial rfl (fun h4 => ?_) (fun h4 => ?_)
  · skip
    try simp +decide only [z0, z1436, z1437, z1438, z1647, z1728, z1734, mi1 (n := s) (by omega), mi1p (b := s) (by omega), mi4 (a := s) (by omega), mi4p (a := s) (by omega), qg] at h4 ⊢
    try simp (disch := omega) only [if_neg] at h4 ⊢
    have h4 := wi_of h4
    refine zz_i ok rfl trivial rfl rfl ?_
    exact zz_pq h (by simp [m_staleKeys, nsv, h4]) rfl
  · skip
    try simp +decide only [z0, z1436, z1437, z1438, z1647, z1728, z1734, mi1 (n := s) (by omega), mi1p (b := s) (by omega), mi4 (a := s) (by omega), mi4p (a := s) (by omega), qg] at h4 ⊢
    try simp (disch := omega) only [if_neg] at h4 ⊢
    have h4 := wi_nof h4
    obtain ⟨s, hs, rfl⟩ := ni_w (N := 4) (by decide) h4.1 h4.2
    have lp15 : ∀ (f k : Nat), 8 - k < f → k ≤ 8 → ∀ (x3 x2 : Int32), x3 = nI k → x2 = m_sk M s k → zz_W G Z md_Mo_staleKeys post 15 [(3, .inl x3), (2, .inl x2), (1, .inl (nI s)), (0, .inr (.inr (6, 0, 0)))] [] M := by
      intro f
      induction f with
      | zero => intro k hf; exact absurd hf (Nat.not_lt_zero _)
      | succ f ih => ?_
      intro k hf hk x3 x2 e3 e2
      subst e3; subst e2
      refine zz_b ok rfl trivial rfl (fun h18 => ?_) (fun h18 => ?_)
      · skip
        try simp +decide only [z0, z1436, z1437, z1438, z1647, z1728, z1734, mi1 (n := s) (by omega), mi1p (b := s) (by omega), mi4 (a := s) (by omega), mi4p (a := s) (by omega), qg] at h18 ⊢
        try simp (disch := omega) only [if_neg] at h18 ⊢
        rw [ni_lit, ni_ltn (by omega) (by decide)] at h18
        refine zz_cV ok rfl (by and_intros <;> first | exact True.intro | with_reducible exact v0 | with_reducible exact v1436 | with_reducible exact v1437 | with_reducible exact v1438 | with_reducible exact v1647 | with_reducible exact v1728 | with_reducible exact v1734 | with_reducible exact vi1 (by omega) (by decide) | with_reducible exact vi2 (by omega) (by decide) | with_reducible exact vi3 (by omega) (by decide) | with_reducible exact vi1p (by omega) (by decide) | with_reducible exact vi2p (by omega) (by decide) | with_reducible exact vi4 (by omega) (by decide) | with_reducible exact vi4p (by omega) (by decide) | with_reducible exact vi5 (by omega) (by decide) | with_reducible exact vi5p (by omega) (by decide) | trivial | exact vi0 (by decide) (by decide)) rfl lk_Mo_106 ca_Mo_lastValue rfl rfl rfl rfl rfl (sp_Mo_lastValue (n := mn M (56 + s)) hG rfl hs (by simp +decide only [mi1 (n := s) (by omega)]; exact (mw_done hm hs).1) (mw_done hm hs).2 ?_)
        try simp +decide only [z0, z1436, z1437, z1438, z1647, z1728, z1734, mi1 (n := s) (by omega), mi1p (b := s) (by omega), mi4 (a := s) (by omega), mi4p (a := s) (by omega), qg]
        try simp (disch := omega) only [if_neg]
        refine zz_cV ok rfl trivial rfl lk_Mo_119 ca_Mo_lastInHistory rfl rfl rfl rfl rfl (sp_Mo_lastInHistory hm hG ?_)
        try simp +decide only [z0, z1436, z1437, z1438, z1647, z1728, z1734, mi1 (n := s) (by omega), mi1p (b := s) (by omega), mi4 (a := s) (by omega), mi4p (a := s) (by omega), qg]
        try simp (disch := omega) only [if_neg]
        refine zz_b ok rfl trivial rfl (fun h44 => ?_) (fun h44 => ?_)
        · skip
          try simp +decide only [z0, z1436, z1437, z1438, z1647, z1728, z1734, mi1 (n := s) (by omega), mi1p (b := s) (by omega), mi4 (a := s) (by omega), mi4p (a := s) (by omega), qg] at h44 ⊢
          try simp (disch := omega) only [if_neg] at h44 ⊢
          refine zz_g ok rfl trivial ?_
          refine zz_pm [3, 2, 1, 0] rfl ?_
          exact ih (k + 1) (by omega) (by omega) _ _ (nI_1 k) (by rw [m_sk, if_pos h44])
        · skip
          try simp +decide only [z0, z1436, z1437, z1438, z1647, z1728, z1734, mi1 (n := s) (by omega), mi1p (b := s) (by omega), mi4 (a := s) (by omega), mi4p (a := s) (by omega), qg] at h44 ⊢
          try simp (disch := omega) only [if_neg] at h44 ⊢
          refine zz_g ok rfl trivial ?_
          refine zz_pm [3, 2, 1, 0] rfl ?_
          exact ih (k + 1) (by omega) (by omega) _ _ (nI_1 k) (by rw [m_sk, if_neg h44])
      · skip
        try simp +decide only [z0, z1436, z1437, z1438, z1647, z1728, z1734, mi1 (n := s) (by omega), mi1p (b := s) (by omega), mi4 (a := s) (by omega), mi4p (a := s) (by omega), qg] at h18 ⊢
        try simp (disch := omega) only [if_neg] at h18 ⊢
        rw [ni_lit, ni_ltn (by omega) (by decide)] at h18
        have hk8 : k = 8 := by omega
        subst hk8
        refine zz_i ok rfl trivial rfl rfl ?_
        exact zz_pq h (by simp [m_staleKeys, nsv, h4, zz_ixn (show s < 2147483648 by omega)]) rfl
    refine zz_g ok rfl trivial ?_
    refine zz_pm [3, 2, 1, 0] rfl ?_
    exact lp15 9 0 (by omega) (by omega) _ _ rfl rfl
theorem sp_Mo_isKept {G : zG} {post : Option zV → zM → Prop} {M : zM} {s : Nat} {a : Int32} (hm : mw M) (hG : zz_go G) (ea : a = nI s) (hs : s < 5) (h : post (some (.inl (zz_bi (m_kp M s)))) M) : zz_T G md_Mo_isKept [.inr (.inr (6, 0, 0)), .inl a] M post := by
  refine en_Mo_isKept hG rfl (fun Z ok => ?_)
  subst ea
  have hh := mw_hist hm
  have hc := mw_done hm hs
  have hl := mw_len hm hs
  refine zz_b ok rfl (by and_intros <;> first | exact True.intro | with_reducible exact v0 | with_reducible exact v1436 | with_reducible exact v1437 | with_reducible exact v1438 | with_reducible exact v1647 | with_reducible exact v1728 | with_reducible exact v1734 | with_reducible exact vi1 (by omega) (by decide) | with_reducible exact vi2 (by omega) (by decide) | with_reducible exact vi3 (by omega) (by decide) | with_reducible exact vi1p (by omega) (by decide) | with_reducible exact vi2p (by omega) (by decide) | with_reducible exact vi4 (by omega) (by decide) | with_reducible exact vi4p (by omega) (by decide) | with_reducible exact vi5 (by omega) (by decide) | with_reducible exact vi5p (by omega) (by decide) | trivial | exact vi0 (by decide) (by decide)) rfl (fun h17 => ?_) (fun h17 => ?_)
  · skip
    try simp +decide only [z0, z1436, z1437, z1438, z1647, z1728, z1734, mi1 (n := s) (by omega), mi1p (b := s) (by omega), mi4 (a := s) (by omega), mi4p (a := s) (by omega), qg] at h17 ⊢
    try simp (disch := omega) only [if_neg] at h17 ⊢
    rw [hh.1, hc.1, ni_ltn (by omega) (by omega)] at h17
    have lp28 : ∀ (f k : Nat), 4 * mn M (56 + s) - k < f → k ≤ 4 * mn M (56 + s) → ∀ (x3 x2 : Int32) (b : Bool), x3 = nI k → x2 = zz_bi b → (!decide (mn M 1436 < mn M (56 + s)) && m_k1 M s (4 * mn M (56 + s)) 0) = (b && m_k1 M s (4 * mn M (56 + s) - k) k) → zz_W G Z md_Mo_isKept post 28 [(3, .inl x3), (2, .inl x2), (1, .inl (nI s)), (0, .inr (.inr (6, 0, 0)))] [] M := by
      intro f
      induction f with
      | zero => intro k hf; exact absurd hf (Nat.not_lt_zero _)
      | succ f ih => ?_
      intro k hf hk x3 x2 b e3 e2 hb
      subst e3; subst e2
      refine zz_b ok rfl (by and_intros <;> first | exact True.intro | with_reducible exact v0 | with_reducible exact v1436 | with_reducible exact v1437 | with_reducible exact v1438 | with_reducible exact v1647 | with_reducible exact v1728 | with_reducible exact v1734 | with_reducible exact vi1 (by omega) (by decide) | with_reducible exact vi2 (by omega) (by decide) | with_reducible exact vi3 (by omega) (by decide) | with_reducible exact vi1p (by omega) (by decide) | with_reducible exact vi2p (by omega) (by decide) | with_reducible exact vi4 (by omega) (by decide) | with_reducible exact vi4p (by omega) (by decide) | with_reducible exact vi5 (by omega) (by decide) | with_reducible exact vi5p (by omega) (by decide) | trivial | exact vi0 (by decide) (by decide)) rfl (fun h40 => ?_) (fun h40 => ?_)
      · skip
        try simp +decide only [z0, z1436, z1437, z1438, z1647, z1728, z1734, mi1 (n := s) (by omega), mi1p (b := s) (by omega), mi4 (a := s) (by omega), mi4p (a := s) (by omega), qg] at h40 ⊢
        try simp (disch := omega) only [if_neg] at h40 ⊢
        rw [hc.1, ni_lit, ni_mul, ni_ltn (by omega) (by omega)] at h40
        refine zz_b ok rfl trivial rfl (fun h44 => ?_) (fun h44 => ?_)
        · skip
          try simp +decide only [z0, z1436, z1437, z1438, z1647, z1728, z1734, mi1 (n := s) (by omega), mi1p (b := s) (by omega), mi4 (a := s) (by omega), mi4p (a := s) (by omega), qg] at h44 ⊢
          try simp (disch := omega) only [if_neg] at h44 ⊢
          simp only [zz_bi0, Bool.not_eq_false] at h44
          have hb2 := hb
          rw [h44, Bool.false_and, ← h44] at hb2
          have lp85 : ∀ (g j : Nat), mn M (51 + s) - 1 - j < g → j ≤ mn M (51 + s) - 1 → ∀ (x3 x2 : Int32), x3 = nI (j + 1) → x2 = zz_bi (m_k2 M s b j) → zz_W G Z md_Mo_isKept post 85 [(3, .inl x3), (2, .inl x2), (1, .inl (nI s)), (0, .inr (.inr (6, 0, 0)))] [] M := by
            intro g
            induction g with
            | zero => intro j hg; exact absurd hg (Nat.not_lt_zero _)
            | succ g ih2 => ?_
            intro j hg hj x3 x2 e3 e2
            subst e3; subst e2
            refine zz_b ok rfl (by and_intros <;> first | exact True.intro | with_reducible exact v0 | with_reducible exact v1436 | with_reducible exact v1437 | with_reducible exact v1438 | with_reducible exact v1647 | with_reducible exact v1728 | with_reducible exact v1734 | with_reducible exact vi1 (by omega) (by decide) | with_reducible exact vi2 (by omega) (by decide) | with_reducible exact vi3 (by omega) (by decide) | with_reducible exact vi1p (by omega) (by decide) | with_reducible exact vi2p (by omega) (by decide) | with_reducible exact vi4 (by omega) (by decide) | with_reducible exact vi4p (by omega) (by decide) | with_reducible exact vi5 (by omega) (by decide) | with_reducible exact vi5p (by omega) (by decide) | trivial | exact vi0 (by decide) (by decide)) rfl (fun h95 => ?_) (fun h95 => ?_)
            · skip
              try simp +decide only [z0, z1436, z1437, z1438, z1647, z1728, z1734, mi1 (n := s) (by omega), mi1p (b := s) (by omega), mi4 (a := s) (by omega), mi4p (a := s) (by omega), qg] at h95 ⊢
              try simp (disch := omega) only [if_neg] at h95 ⊢
              rw [hl.1, ni_ltn (by omega) (by omega)] at h95
              refine zz_b ok rfl trivial rfl (fun h99 => ?_) (fun h99 => ?_)
              · skip
                try simp +decide only [z0, z1436, z1437, z1438, z1647, z1728, z1734, mi1 (n := s) (by omega), mi1p (b := s) (by omega), mi4 (a := s) (by omega), mi4p (a := s) (by omega), qg] at h99 ⊢
                try simp (disch := omega) only [if_neg] at h99 ⊢
                simp only [zz_bi0, Bool.not_eq_false] at h99
                refine zz_g ok rfl trivial ?_
                refine zz_pm [3, 2, 1, 0] rfl ?_
                exact ih2 (j + 1) (by omega) (by omega) _ _ (nI_1 (j + 1)) (by simp [m_k2, zz_bi, h99])
              · skip
                try simp +decide only [z0, z1436, z1437, z1438, z1647, z1728, z1734, mi1 (n := s) (by omega), mi1p (b := s) (by omega), mi4 (a := s) (by omega), mi4p (a := s) (by omega), qg] at h99 ⊢
                try simp (disch := omega) only [if_neg] at h99 ⊢
                simp only [zz_bi0, Bool.not_eq_false] at h99
                refine zz_cV ok rfl trivial rfl lk_Mo_47 ca_Mo_part rfl rfl rfl rfl rfl (sp_Mo_part (i := j + 1) (w := 0) hG rfl hs (by rfl) (by omega) rfl (by decide) ?_)
                try simp +decide only [z0, z1436, z1437, z1438, z1647, z1728, z1734, mi1 (n := s) (by omega), mi1p (b := s) (by omega), mi4 (a := s) (by omega), mi4p (a := s) (by omega), qg]
                try simp (disch := omega) only [if_neg]
                refine zz_cV ok rfl trivial rfl lk_Mo_47 ca_Mo_part rfl rfl rfl rfl rfl (sp_Mo_part (i := j) (w := 0) hG rfl hs (by rw [ni_lit, ni_subn (by omega), Nat.add_sub_cancel]) (by omega) rfl (by decide) ?_)
                try simp +decide only [z0, z1436, z1437, z1438, z1647, z1728, z1734, mi1 (n := s) (by omega), mi1p (b := s) (by omega), mi4 (a := s) (by omega), mi4p (a := s) (by omega), qg]
                try simp (disch := omega) only [if_neg]
                refine zz_b ok rfl trivial rfl (fun h118 => ?_) (fun h118 => ?_)
                · skip
                  try simp +decide only [z0, z1436, z1437, z1438, z1647, z1728, z1734, mi1 (n := s) (by omega), mi1p (b := s) (by omega), mi4 (a := s) (by omega), mi4p (a := s) (by omega), qg] at h118 ⊢
                  try simp (disch := omega) only [if_neg] at h118 ⊢
                  refine zz_g ok rfl trivial ?_
                  refine zz_pm [3, 2, 1, 0] rfl ?_
                  exact ih2 (j + 1) (by omega) (by omega) _ _ (nI_1 (j + 1)) (by simp [m_k2, zz_bi, h99, h118])
                · skip
                  try simp +decide only [z0, z1436, z1437, z1438, z1647, z1728, z1734, mi1 (n := s) (by omega), mi1p (b := s) (by omega), mi4 (a := s) (by omega), mi4p (a := s) (by omega), qg] at h118 ⊢
                  try simp (disch := omega) only [if_neg] at h118 ⊢
                  refine zz_cV ok rfl trivial rfl lk_Mo_47 ca_Mo_part rfl rfl rfl rfl rfl (sp_Mo_part (i := j + 1) (w := 3) hG rfl hs (by rfl) (by omega) rfl (by decide) ?_)
                  try simp +decide only [z0, z1436, z1437, z1438, z1647, z1728, z1734, mi1 (n := s) (by omega), mi1p (b := s) (by omega), mi4 (a := s) (by omega), mi4p (a := s) (by omega), qg]
                  try simp (disch := omega) only [if_neg]
                  refine zz_cV ok rfl trivial rfl lk_Mo_47 ca_Mo_part rfl rfl rfl rfl rfl (sp_Mo_part (i := j) (w := 3) hG rfl hs (by rw [ni_lit, ni_subn (by omega), Nat.add_sub_cancel]) (by omega) rfl (by decide) ?_)
                  try simp +decide only [z0, z1436, z1437, z1438, z1647, z1728, z1734, mi1 (n := s) (by omega), mi1p (b := s) (by omega), mi4 (a := s) (by omega), mi4p (a := s) (by omega), qg]
                  try simp (disch := omega) only [if_neg]
                  refine zz_b ok rfl trivial rfl (fun h137 => ?_) (fun h137 => ?_)
                  · skip
                    try simp +decide only [z0, z1436, z1437, z1438, z1647, z1728, z1734, mi1 (n := s) (by omega), mi1p (b := s) (by omega), mi4 (a := s) (by omega), mi4p (a := s) (by omega), qg] at h137 ⊢
                    try simp (disch := omega) only [if_neg] at h137 ⊢
                    refine zz_g ok rfl trivial ?_
                    refine zz_pm [3, 2, 1, 0] rfl ?_
                    exact ih2 (j + 1) (by omega) (by omega) _ _ (nI_1 (j + 1)) (by simp [m_k2, zz_bi, h99, h118, h137])
                  · skip
                    try simp +decide only [z0, z1436, z1437, z1438, z1647, z1728, z1734, mi1 (n := s) (by omega), mi1p (b := s) (by omega), mi4 (a := s) (by omega), mi4p (a := s) (by omega), qg] at h137 ⊢
                    try simp (disch := omega) only [if_neg] at h137 ⊢
                    refine zz_g ok rfl trivial ?_
                    refine zz_pm [3, 2, 1, 0] rfl ?_
                    exact ih2 (j + 1) (by omega) (by omega) _ _ (nI_1 (j + 1)) (by simp [m_k2, zz_bi, h99, h118, h137])
            · skip
              try simp +decide only [z0, z1436, z1437, z1438, z1647, z1728, z1734, mi1 (n := s) (by omega), mi1p (b := s) (by omega), mi4 (a := s) (by omega), mi4p (a := s) (by omega), qg] at h95 ⊢
              try simp (disch := omega) only [if_neg] at h95 ⊢
              rw [hl.1, ni_ltn (by omega) (by omega)] at h95
              have hjn : j = mn M (51 + s) - 1 := by omega
              refine zz_z ok rfl trivial rfl rfl (by first | exact Or.inl rfl | exact Or.inr rfl | exact zz_bi01 _) ?_
              exact zz_pq h (by rw [m_kp, hb2, hjn]) rfl
          refine zz_g ok rfl trivial ?_
          refine zz_pm [3, 2, 1, 0] rfl ?_
          exact lp85 (mn M (51 + s) + 1) 0 (by omega) (by omega) _ _ rfl rfl
        · skip
          try simp +decide only [z0, z1436, z1437, z1438, z1647, z1728, z1734, mi1 (n := s) (by omega), mi1p (b := s) (by omega), mi4 (a := s) (by omega), mi4p (a := s) (by omega), qg] at h44 ⊢
          try simp (disch := omega) only [if_neg] at h44 ⊢
          simp only [zz_bi0, Bool.not_eq_false] at h44
          refine zz_cV ok rfl (by and_intros <;> first | exact True.intro | with_reducible exact v0 | with_reducible exact v1436 | with_reducible exact v1437 | with_reducible exact v1438 | with_reducible exact v1647 | with_reducible exact v1728 | with_reducible exact v1734 | with_reducible exact vi1 (by omega) (by decide) | with_reducible exact vi2 (by omega) (by decide) | with_reducible exact vi3 (by omega) (by decide) | with_reducible exact vi1p (by omega) (by decide) | with_reducible exact vi2p (by omega) (by decide) | with_reducible exact vi4 (by omega) (by decide) | with_reducible exact vi4p (by omega) (by decide) | with_reducible exact vi5 (by omega) (by decide) | with_reducible exact vi5p (by omega) (by decide) | trivial | exact vi0 (by decide) (by decide)) rfl lk_Mo_47 ca_Mo_part rfl rfl rfl rfl rfl (sp_Mo_part (i := k / 4) (w := k % 4) hG rfl hs (by rw [show (4 : Int32) = nI 4 from rfl, pk_div (by omega) (by decide) (by decide)]) (by omega) (by rw [show (4 : Int32) = nI 4 from rfl, pk_rem (by omega) (by decide) (by decide)]) (by omega) ?_)
          try simp +decide only [z0, z1436, z1437, z1438, z1647, z1728, z1734, mi1 (n := s) (by omega), mi1p (b := s) (by omega), mi4 (a := s) (by omega), mi4p (a := s) (by omega), qg]
          try simp (disch := omega) only [if_neg]
          refine zz_b ok rfl (by and_intros <;> first | exact True.intro | with_reducible exact v0 | with_reducible exact v1436 | with_reducible exact v1437 | with_reducible exact v1438 | with_reducible exact v1647 | with_reducible exact v1728 | with_reducible exact v1734 | with_reducible exact vi1 (by omega) (by decide) | with_reducible exact vi2 (by omega) (by decide) | with_reducible exact vi3 (by omega) (by decide) | with_reducible exact vi1p (by omega) (by decide) | with_reducible exact vi2p (by omega) (by decide) | with_reducible exact vi4 (by omega) (by decide) | with_reducible exact vi4p (by omega) (by decide) | with_reducible exact vi5 (by omega) (by decide) | with_reducible exact vi5p (by omega) (by decide) | trivial | exact vi0 (by decide) (by decide)) rfl (fun h68 => ?_) (fun h68 => ?_)
          · skip
            try simp +decide only [z0, z1436, z1437, z1438, z1647, z1728, z1734, mi1 (n := s) (by omega), mi1p (b := s) (by omega), mi4 (a := s) (by omega), mi4p (a := s) (by omega), qg] at h68 ⊢
            try simp (disch := omega) only [if_neg] at h68 ⊢
            simp +decide only [mi1 (n := k) (by omega)] at h68
            rw [m_pt4] at h68
            refine zz_g ok rfl trivial ?_
            refine zz_pm [3, 2, 1, 0] rfl ?_
            exact ih (k + 1) (by omega) (by omega) _ _ true (nI_1 k) rfl (by rw [hb, h44, show 4 * mn M (56 + s) - k = (4 * mn M (56 + s) - (k + 1)) + 1 by omega, m_k1, if_pos h68])
          · skip
            try simp +decide only [z0, z1436, z1437, z1438, z1647, z1728, z1734, mi1 (n := s) (by omega), mi1p (b := s) (by omega), mi4 (a := s) (by omega), mi4p (a := s) (by omega), qg] at h68 ⊢
            try simp (disch := omega) only [if_neg] at h68 ⊢
            simp +decide only [mi1 (n := k) (by omega)] at h68
            rw [m_pt4] at h68
            refine zz_g ok rfl trivial ?_
            refine zz_pm [3, 2, 1, 0] rfl ?_
            exact ih (k + 1) (by omega) (by omega) _ _ false (nI_1 k) rfl (by rw [hb, h44, show 4 * mn M (56 + s) - k = (4 * mn M (56 + s) - (k + 1)) + 1 by omega, m_k1, if_neg h68]; simp [h68])
      · skip
        try simp +decide only [z0, z1436, z1437, z1438, z1647, z1728, z1734, mi1 (n := s) (by omega), mi1p (b := s) (by omega), mi4 (a := s) (by omega), mi4p (a := s) (by omega), qg] at h40 ⊢
        try simp (disch := omega) only [if_neg] at h40 ⊢
        rw [hc.1, ni_lit, ni_mul, ni_ltn (by omega) (by omega)] at h40
        have hk4 : k = 4 * mn M (56 + s) := by omega
        subst hk4
        have hb2 := hb
        rw [Nat.sub_self, m_k1, Bool.and_true] at hb2
        have lp85 : ∀ (g j : Nat), mn M (51 + s) - 1 - j < g → j ≤ mn M (51 + s) - 1 → ∀ (x3 x2 : Int32), x3 = nI (j + 1) → x2 = zz_bi (m_k2 M s b j) → zz_W G Z md_Mo_isKept post 85 [(3, .inl x3), (2, .inl x2), (1, .inl (nI s)), (0, .inr (.inr (6, 0, 0)))] [] M := by
          intro g
          induction g with
          | zero => intro j hg; exact absurd hg (Nat.not_lt_zero _)
          | succ g ih2 => ?_
          intro j hg hj x3 x2 e3 e2
          subst e3; subst e2
          refine zz_b ok rfl (by and_intros <;> first | exact True.intro | with_reducible exact v0 | with_reducible exact v1436 | with_reducible exact v1437 | with_reducible exact v1438 | with_reducible exact v1647 | with_reducible exact v1728 | with_reducible exact v1734 | with_reducible exact vi1 (by omega) (by decide) | with_reducible exact vi2 (by omega) (by decide) | with_reducible exact vi3 (by omega) (by decide) | with_reducible exact vi1p (by omega) (by decide) | with_reducible exact vi2p (by omega) (by decide) | with_reducible exact vi4 (by omega) (by decide) | with_reducible exact vi4p (by omega) (by decide) | with_reducible exact vi5 (by omega) (by decide) | with_reducible exact vi5p (by omega) (by decide) | trivial | exact vi0 (by decide) (by decide)) rfl (fun h95 => ?_) (fun h95 => ?_)
          · skip
            try simp +decide only [z0, z1436, z1437, z1438, z1647, z1728, z1734, mi1 (n := s) (by omega), mi1p (b := s) (by omega), mi4 (a := s) (by omega), mi4p (a := s) (by omega), qg] at h95 ⊢
            try simp (disch := omega) only [if_neg] at h95 ⊢
            rw [hl.1, ni_ltn (by omega) (by omega)] at h95
            refine zz_b ok rfl trivial rfl (fun h99 => ?_) (fun h99 => ?_)
            · skip
              try simp +decide only [z0, z1436, z1437, z1438, z1647, z1728, z1734, mi1 (n := s) (by omega), mi1p (b := s) (by omega), mi4 (a := s) (by omega), mi4p (a := s) (by omega), qg] at h99 ⊢
              try simp (disch := omega) only [if_neg] at h99 ⊢
              simp only [zz_bi0, Bool.not_eq_false] at h99
              refine zz_g ok rfl trivial ?_
              refine zz_pm [3, 2, 1, 0] rfl ?_
              exact ih2 (j + 1) (by omega) (by omega) _ _ (nI_1 (j + 1)) (by simp [m_k2, zz_bi, h99])
            · skip
              try simp +decide only [z0, z1436, z1437, z1438, z1647, z1728, z1734, mi1 (n := s) (by omega), mi1p (b := s) (by omega), mi4 (a := s) (by omega), mi4p (a := s) (by omega), qg] at h99 ⊢
              try simp (disch := omega) only [if_neg] at h99 ⊢
              simp only [zz_bi0, Bool.not_eq_false] at h99
              refine zz_cV ok rfl trivial rfl lk_Mo_47 ca_Mo_part rfl rfl rfl rfl rfl (sp_Mo_part (i := j + 1) (w := 0) hG rfl hs (by rfl) (by omega) rfl (by decide) ?_)
              try simp +decide only [z0, z1436, z1437, z1438, z1647, z1728, z1734, mi1 (n := s) (by omega), mi1p (b := s) (by omega), mi4 (a := s) (by omega), mi4p (a := s) (by omega), qg]
              try simp (disch := omega) only [if_neg]
              refine zz_cV ok rfl trivial rfl lk_Mo_47 ca_Mo_part rfl rfl rfl rfl rfl (sp_Mo_part (i := j) (w := 0) hG rfl hs (by rw [ni_lit, ni_subn (by omega), Nat.add_sub_cancel]) (by omega) rfl (by decide) ?_)
              try simp +decide only [z0, z1436, z1437, z1438, z1647, z1728, z1734, mi1 (n := s) (by omega), mi1p (b := s) (by omega), mi4 (a := s) (by omega), mi4p (a := s) (by omega), qg]
              try simp (disch := omega) only [if_neg]
              refine zz_b ok rfl trivial rfl (fun h118 => ?_) (fun h118 => ?_)
              · skip
                try simp +decide only [z0, z1436, z1437, z1438, z1647, z1728, z1734, mi1 (n := s) (by omega), mi1p (b := s) (by omega), mi4 (a := s) (by omega), mi4p (a := s) (by omega), qg] at h118 ⊢
                try simp (disch := omega) only [if_neg] at h118 ⊢
                refine zz_g ok rfl trivial ?_
                refine zz_pm [3, 2, 1, 0] rfl ?_
                exact ih2 (j + 1) (by omega) (by omega) _ _ (nI_1 (j + 1)) (by simp [m_k2, zz_bi, h99, h118])
              · skip
                try simp +decide only [z0, z1436, z1437, z1438, z1647, z1728, z1734, mi1 (n := s) (by omega), mi1p (b := s) (by omega), mi4 (a := s) (by omega), mi4p (a := s) (by omega), qg] at h118 ⊢
                try simp (disch := omega) only [if_neg] at h118 ⊢
                refine zz_cV ok rfl trivial rfl lk_Mo_47 ca_Mo_part rfl rfl rfl rfl rfl (sp_Mo_part (i := j + 1) (w := 3) hG rfl hs (by rfl) (by omega) rfl (by decide) ?_)
                try simp +decide only [z0, z1436, z1437, z1438, z1647, z1728, z1734, mi1 (n := s) (by omega), mi1p (b := s) (by omega), mi4 (a := s) (by omega), mi4p (a := s) (by omega), qg]
                try simp (disch := omega) only [if_neg]
                refine zz_cV ok rfl trivial rfl lk_Mo_47 ca_Mo_part rfl rfl rfl rfl rfl (sp_Mo_part (i := j) (w := 3) hG rfl hs (by rw [ni_lit, ni_subn (by omega), Nat.add_sub_cancel]) (by omega) rfl (by decide) ?_)
                try simp +decide only [z0, z1436, z1437, z1438, z1647, z1728, z1734, mi1 (n := s) (by omega), mi1p (b := s) (by omega), mi4 (a := s) (by omega), mi4p (a := s) (by omega), qg]
                try simp (disch := omega) only [if_neg]
                refine zz_b ok rfl trivial rfl (fun h137 => ?_) (fun h137 => ?_)
                · skip
                  try simp +decide only [z0, z1436, z1437, z1438, z1647, z1728, z1734, mi1 (n := s) (by omega), mi1p (b := s) (by omega), mi4 (a := s) (by omega), mi4p (a := s) (by omega), qg] at h137 ⊢
                  try simp (disch := omega) only [if_neg] at h137 ⊢
                  refine zz_g ok rfl trivial ?_
                  refine zz_pm [3, 2, 1, 0] rfl ?_
                  exact ih2 (j + 1) (by omega) (by omega) _ _ (nI_1 (j + 1)) (by simp [m_k2, zz_bi, h99, h118, h137])
                · skip
                  try simp +decide only [z0, z1436, z1437, z1438, z1647, z1728, z1734, mi1 (n := s) (by omega), mi1p (b := s) (by omega), mi4 (a := s) (by omega), mi4p (a := s) (by omega), qg] at h137 ⊢
                  try simp (disch := omega) only [if_neg] at h137 ⊢
                  refine zz_g ok rfl trivial ?_
                  refine zz_pm [3, 2, 1, 0] rfl ?_
                  exact ih2 (j + 1) (by omega) (by omega) _ _ (nI_1 (j + 1)) (by simp [m_k2, zz_bi, h99, h118, h137])
          · skip
            try simp +decide only [z0, z1436, z1437, z1438, z1647, z1728, z1734, mi1 (n := s) (by omega), mi1p (b := s) (by omega), mi4 (a := s) (by omega), mi4p (a := s) (by omega), qg] at h95 ⊢
            try simp (disch := omega) only [if_neg] at h95 ⊢
            rw [hl.1, ni_ltn (by omega) (by omega)] at h95
            have hjn : j = mn M (51 + s) - 1 := by omega
            refine zz_z ok rfl trivial rfl rfl (by first | exact Or.inl rfl | exact Or.inr rfl | exact zz_bi01 _) ?_
            exact zz_pq h (by rw [m_kp, hb2, hjn]) rfl
        refine zz_g ok rfl trivial ?_
        refine zz_pm [3, 2, 1, 0] rfl ?_
        exact lp85 (mn M (51 + s) + 1) 0 (by omega) (by omega) _ _ rfl rfl
    refine zz_g ok rfl trivial ?_
    refine zz_pm [3, 2, 1, 0] rfl ?_
    exact lp28 (4 * mn M (56 + s) + 1) 0 (by omega) (by omega) _ _ false rfl rfl (by simp [h17])
  · skip
    try simp +decide only [z0, z1436, z1437, z1438, z1647, z1728, z1734, mi1 (n := s) (by omega), mi1p (b := s) (by omega), mi4 (a := s) (by omega), mi4p (a := s) (by omega), qg] at h17 ⊢
    try simp (disch := omega) only [if_neg] at h17 ⊢
    rw [hh.1, hc.1, ni_ltn (by omega) (by omega)] at h17
    have lp28 : ∀ (f k : Nat), 4 * mn M (56 + s) - k < f → k ≤ 4 * mn M (56 + s) → ∀ (x3 x2 : Int32) (b : Bool), x3 = nI k → x2 = zz_bi b → (!decide (mn M 1436 < mn M (56 + s)) && m_k1 M s (4 * mn M (56 + s)) 0) = (b && m_k1 M s (4 * mn M (56 + s) - k) k) → zz_W G Z md_Mo_isKept post 28 [(3, .inl x3), (2, .inl x2), (1, .inl (nI s)), (0, .inr (.inr (6, 0, 0)))] [] M := by
      intro f
      induction f with
      | zero => intro k hf; exact absurd hf (Nat.not_lt_zero _)
      | succ f ih => ?_
      intro k hf hk x3 x2 b e3 e2 hb
      subst e3; subst e2
      refine zz_b ok rfl (by and_intros <;> first | exact True.intro | with_reducible exact v0 | with_reducible exact v1436 | with_reducible exact v1437 | with_reducible exact v1438 | with_reducible exact v1647 | with_reducible exact v1728 | with_reducible exact v1734 | with_reducible exact vi1 (by omega) (by decide) | with_reducible exact vi2 (by omega) (by decide) | with_reducible exact vi3 (by omega) (by decide) | with_reducible exact vi1p (by omega) (by decide) | with_reducible exact vi2p (by omega) (by decide) | with_reducible exact vi4 (by omega) (by decide) | with_reducible exact vi4p (by omega) (by decide) | with_reducible exact vi5 (by omega) (by decide) | with_reducible exact vi5p (by omega) (by decide) | trivial | exact vi0 (by decide) (by decide)) rfl (fun h40 => ?_) (fun h40 => ?_)
      · skip
        try simp +decide only [z0, z1436, z1437, z1438, z1647, z1728, z1734, mi1 (n := s) (by omega), mi1p (b := s) (by omega), mi4 (a := s) (by omega), mi4p (a := s) (by omega), qg] at h40 ⊢
        try simp (disch := omega) only [if_neg] at h40 ⊢
        rw [hc.1, ni_lit, ni_mul, ni_ltn (by omega) (by omega)] at h40
        refine zz_b ok rfl trivial rfl (fun h44 => ?_) (fun h44 => ?_)
        · skip
          try simp +decide only [z0, z1436, z1437, z1438, z1647, z1728, z1734, mi1 (n := s) (by omega), mi1p (b := s) (by omega), mi4 (a := s) (by omega), mi4p (a := s) (by omega), qg] at h44 ⊢
          try simp (disch := omega) only [if_neg] at h44 ⊢
          simp only [zz_bi0, Bool.not_eq_false] at h44
          have hb2 := hb
          rw [h44, Bool.false_and, ← h44] at hb2
          have lp85 : ∀ (g j : Nat), mn M (51 + s) - 1 - j < g → j ≤ mn M (51 + s) - 1 → ∀ (x3 x2 : Int32), x3 = nI (j + 1) → x2 = zz_bi (m_k2 M s b j) → zz_W G Z md_Mo_isKept post 85 [(3, .inl x3), (2, .inl x2), (1, .inl (nI s)), (0, .inr (.inr (6, 0, 0)))] [] M := by
            intro g
            induction g with
            | zero => intro j hg; exact absurd hg (Nat.not_lt_zero _)
            | succ g ih2 => ?_
            intro j hg hj x3 x2 e3 e2
            subst e3; subst e2
            refine zz_b ok rfl (by and_intros <;> first | exact True.intro | with_reducible exact v0 | with_reducible exact v1436 | with_reducible exact v1437 | with_reducible exact v1438 | with_reducible exact v1647 | with_reducible exact v1728 | with_reducible exact v1734 | with_reducible exact vi1 (by omega) (by decide) | with_reducible exact vi2 (by omega) (by decide) | with_reducible exact vi3 (by omega) (by decide) | with_reducible exact vi1p (by omega) (by decide) | with_reducible exact vi2p (by omega) (by decide) | with_reducible exact vi4 (by omega) (by decide) | with_reducible exact vi4p (by omega) (by decide) | with_reducible exact vi5 (by omega) (by decide) | with_reducible exact vi5p (by omega) (by decide) | trivial | exact vi0 (by decide) (by decide)) rfl (fun h95 => ?_) (fun h95 => ?_)
            · skip
              try simp +decide only [z0, z1436, z1437, z1438, z1647, z1728, z1734, mi1 (n := s) (by omega), mi1p (b := s) (by omega), mi4 (a := s) (by omega), mi4p (a := s) (by omega), qg] at h95 ⊢
              try simp (disch := omega) only [if_neg] at h95 ⊢
              rw [hl.1, ni_ltn (by omega) (by omega)] at h95
              refine zz_b ok rfl trivial rfl (fun h99 => ?_) (fun h99 => ?_)
              · skip
                try simp +decide only [z0, z1436, z1437, z1438, z1647, z1728, z1734, mi1 (n := s) (by omega), mi1p (b := s) (by omega), mi4 (a := s) (by omega), mi4p (a := s) (by omega), qg] at h99 ⊢
                try simp (disch := omega) only [if_neg] at h99 ⊢
                simp only [zz_bi0, Bool.not_eq_false] at h99
                refine zz_g ok rfl trivial ?_
                refine zz_pm [3, 2, 1, 0] rfl ?_
                exact ih2 (j + 1) (by omega) (by omega) _ _ (nI_1 (j + 1)) (by simp [m_k2, zz_bi, h99])
              · skip
                try simp +decide only [z0, z1436, z1437, z1438, z1647, z1728, z1734, mi1 (n := s) (by omega), mi1p (b := s) (by omega), mi4 (a := s) (by omega), mi4p (a := s) (by omega), qg] at h99 ⊢
                try simp (disch := omega) only [if_neg] at h99 ⊢
                simp only [zz_bi0, Bool.not_eq_false] at h99
                refine zz_cV ok rfl trivial rfl lk_Mo_47 ca_Mo_part rfl rfl rfl rfl rfl (sp_Mo_part (i := j + 1) (w := 0) hG rfl hs (by rfl) (by omega) rfl (by decide) ?_)
                try simp +decide only [z0, z1436, z1437, z1438, z1647, z1728, z1734, mi1 (n := s) (by omega), mi1p (b := s) (by omega), mi4 (a := s) (by omega), mi4p (a := s) (by omega), qg]
                try simp (disch := omega) only [if_neg]
                refine zz_cV ok rfl trivial rfl lk_Mo_47 ca_Mo_part rfl rfl rfl rfl rfl (sp_Mo_part (i := j) (w := 0) hG rfl hs (by rw [ni_lit, ni_subn (by omega), Nat.add_sub_cancel]) (by omega) rfl (by decide) ?_)
                try simp +decide only [z0, z1436, z1437, z1438, z1647, z1728, z1734, mi1 (n := s) (by omega), mi1p (b := s) (by omega), mi4 (a := s) (by omega), mi4p (a := s) (by omega), qg]
                try simp (disch := omega) only [if_neg]
                refine zz_b ok rfl trivial rfl (fun h118 => ?_) (fun h118 => ?_)
                · skip
                  try simp +decide only [z0, z1436, z1437, z1438, z1647, z1728, z1734, mi1 (n := s) (by omega), mi1p (b := s) (by omega), mi4 (a := s) (by omega), mi4p (a := s) (by omega), qg] at h118 ⊢
                  try simp (disch := omega) only [if_neg] at h118 ⊢
                  refine zz_g ok rfl trivial ?_
                  refine zz_pm [3, 2, 1, 0] rfl ?_
                  exact ih2 (j + 1) (by omega) (by omega) _ _ (nI_1 (j + 1)) (by simp [m_k2, zz_bi, h99, h118])
                · skip
                  try simp +decide only [z0, z1436, z1437, z1438, z1647, z1728, z1734, mi1 (n := s) (by omega), mi1p (b := s) (by omega), mi4 (a := s) (by omega), mi4p (a := s) (by omega), qg] at h118 ⊢
                  try simp (disch := omega) only [if_neg] at h118 ⊢
                  refine zz_cV ok rfl trivial rfl lk_Mo_47 ca_Mo_part rfl rfl rfl rfl rfl (sp_Mo_part (i := j + 1) (w := 3) hG rfl hs (by rfl) (by omega) rfl (by decide) ?_)
                  try simp +decide only [z0, z1436, z1437, z1438, z1647, z1728, z1734, mi1 (n := s) (by omega), mi1p (b := s) (by omega), mi4 (a := s) (by omega), mi4p (a := s) (by omega), qg]
                  try simp (disch := omega) only [if_neg]
                  refine zz_cV ok rfl trivial rfl lk_Mo_47 ca_Mo_part rfl rfl rfl rfl rfl (sp_Mo_part (i := j) (w := 3) hG rfl hs (by rw [ni_lit, ni_subn (by omega), Nat.add_sub_cancel]) (by omega) rfl (by decide) ?_)
                  try simp +decide only [z0, z1436, z1437, z1438, z1647, z1728, z1734, mi1 (n := s) (by omega), mi1p (b := s) (by omega), mi4 (a := s) (by omega), mi4p (a := s) (by omega), qg]
                  try simp (disch := omega) only [if_neg]
                  refine zz_b ok rfl trivial rfl (fun h137 => ?_) (fun h137 => ?_)
                  · skip
                    try simp +decide only [z0, z1436, z1437, z1438, z1647, z1728, z1734, mi1 (n := s) (by omega), mi1p (b := s) (by omega), mi4 (a := s) (by omega), mi4p (a := s) (by omega), qg] at h137 ⊢
                    try simp (disch := omega) only [if_neg] at h137 ⊢
                    refine zz_g ok rfl trivial ?_
                    refine zz_pm [3, 2, 1, 0] rfl ?_
                    exact ih2 (j + 1) (by omega) (by omega) _ _ (nI_1 (j + 1)) (by simp [m_k2, zz_bi, h99, h118, h137])
                  · skip
                    try simp +decide only [z0, z1436, z1437, z1438, z1647, z1728, z1734, mi1 (n := s) (by omega), mi1p (b := s) (by omega), mi4 (a := s) (by omega), mi4p (a := s) (by omega), qg] at h137 ⊢
                    try simp (disch := omega) only [if_neg] at h137 ⊢
                    refine zz_g ok rfl trivial ?_
                    refine zz_pm [3, 2, 1, 0] rfl ?_
                    exact ih2 (j + 1) (by omega) (by omega) _ _ (nI_1 (j + 1)) (by simp [m_k2, zz_bi, h99, h118, h137])
            · skip
              try simp +decide only [z0, z1436, z1437, z1438, z1647, z1728, z1734, mi1 (n := s) (by omega), mi1p (b := s) (by omega), mi4 (a := s) (by omega), mi4p (a := s) (by omega), qg] at h95 ⊢
              try simp (disch := omega) only [if_neg] at h95 ⊢
              rw [hl.1, ni_ltn (by omega) (by omega)] at h95
              have hjn : j = mn M (51 + s) - 1 := by omega
              refine zz_z ok rfl trivial rfl rfl (by first | exact Or.inl rfl | exact Or.inr rfl | exact zz_bi01 _) ?_
              exact zz_pq h (by rw [m_kp, hb2, hjn]) rfl
          refine zz_g ok rfl trivial ?_
          refine zz_pm [3, 2, 1, 0] rfl ?_
          exact lp85 (mn M (51 + s) + 1) 0 (by omega) (by omega) _ _ rfl rfl
        · skip
          try simp +decide only [z0, z1436, z1437, z1438, z1647, z1728, z1734, mi1 (n := s) (by omega), mi1p (b := s) (by omega), mi4 (a := s) (by omega), mi4p (a := s) (by omega), qg] at h44 ⊢
          try simp (disch := omega) only [if_neg] at h44 ⊢
          simp only [zz_bi0, Bool.not_eq_false] at h44
          refine zz_cV ok rfl (by and_intros <;> first | exact True.intro | with_reducible exact v0 | with_reducible exact v1436 | with_reducible exact v1437 | with_reducible exact v1438 | with_reducible exact v1647 | with_reducible exact v1728 | with_reducible exact v1734 | with_reducible exact vi1 (by omega) (by decide) | with_reducible exact vi2 (by omega) (by decide) | with_reducible exact vi3 (by omega) (by decide) | with_reducible exact vi1p (by omega) (by decide) | with_reducible exact vi2p (by omega) (by decide) | with_reducible exact vi4 (by omega) (by decide) | with_reducible exact vi4p (by omega) (by decide) | with_reducible exact vi5 (by omega) (by decide) | with_reducible exact vi5p (by omega) (by decide) | trivial | exact vi0 (by decide) (by decide)) rfl lk_Mo_47 ca_Mo_part rfl rfl rfl rfl rfl (sp_Mo_part (i := k / 4) (w := k % 4) hG rfl hs (by rw [show (4 : Int32) = nI 4 from rfl, pk_div (by omega) (by decide) (by decide)]) (by omega) (by rw [show (4 : Int32) = nI 4 from rfl, pk_rem (by omega) (by decide) (by decide)]) (by omega) ?_)
          try simp +decide only [z0, z1436, z1437, z1438, z1647, z1728, z1734, mi1 (n := s) (by omega), mi1p (b := s) (by omega), mi4 (a := s) (by omega), mi4p (a := s) (by omega), qg]
          try simp (disch := omega) only [if_neg]
          refine zz_b ok rfl (by and_intros <;> first | exact True.intro | with_reducible exact v0 | with_reducible exact v1436 | with_reducible exact v1437 | with_reducible exact v1438 | with_reducible exact v1647 | with_reducible exact v1728 | with_reducible exact v1734 | with_reducible exact vi1 (by omega) (by decide) | with_reducible exact vi2 (by omega) (by decide) | with_reducible exact vi3 (by omega) (by decide) | with_reducible exact vi1p (by omega) (by decide) | with_reducible exact vi2p (by omega) (by decide) | with_reducible exact vi4 (by omega) (by decide) | with_reducible exact vi4p (by omega) (by decide) | with_reducible exact vi5 (by omega) (by decide) | with_reducible exact vi5p (by omega) (by decide) | trivial | exact vi0 (by decide) (by decide)) rfl (fun h68 => ?_) (fun h68 => ?_)
          · skip
            try simp +decide only [z0, z1436, z1437, z1438, z1647, z1728, z1734, mi1 (n := s) (by omega), mi1p (b := s) (by omega), mi4 (a := s) (by omega), mi4p (a := s) (by omega), qg] at h68 ⊢
            try simp (disch := omega) only [if_neg] at h68 ⊢
            simp +decide only [mi1 (n := k) (by omega)] at h68
            rw [m_pt4] at h68
            refine zz_g ok rfl trivial ?_
            refine zz_pm [3, 2, 1, 0] rfl ?_
            exact ih (k + 1) (by omega) (by omega) _ _ true (nI_1 k) rfl (by rw [hb, h44, show 4 * mn M (56 + s) - k = (4 * mn M (56 + s) - (k + 1)) + 1 by omega, m_k1, if_pos h68])
          · skip
            try simp +decide only [z0, z1436, z1437, z1438, z1647, z1728, z1734, mi1 (n := s) (by omega), mi1p (b := s) (by omega), mi4 (a := s) (by omega), mi4p (a := s) (by omega), qg] at h68 ⊢
            try simp (disch := omega) only [if_neg] at h68 ⊢
            simp +decide only [mi1 (n := k) (by omega)] at h68
            rw [m_pt4] at h68
            refine zz_g ok rfl trivial ?_
            refine zz_pm [3, 2, 1, 0] rfl ?_
            exact ih (k + 1) (by omega) (by omega) _ _ false (nI_1 k) rfl (by rw [hb, h44, show 4 * mn M (56 + s) - k = (4 * mn M (56 + s) - (k + 1)) + 1 by omega, m_k1, if_neg h68]; simp [h68])
      · skip
        try simp +decide only [z0, z1436, z1437, z1438, z1647, z1728, z1734, mi1 (n := s) (by omega), mi1p (b := s) (by omega), mi4 (a := s) (by omega), mi4p (a := s) (by omega), qg] at h40 ⊢
        try simp (disch := omega) only [if_neg] at h40 ⊢
        rw [hc.1, ni_lit, ni_mul, ni_ltn (by omega) (by omega)] at h40
        have hk4 : k = 4 * mn M (56 + s) := by omega
        subst hk4
        have hb2 := hb
        rw [Nat.sub_self, m_k1, Bool.and_true] at hb2
        have lp85 : ∀ (g j : Nat), mn M (51 + s) - 1 - j < g → j ≤ mn M (51 + s) - 1 → ∀ (x3 x2 : Int32), x3 = nI (j + 1) → x2 = zz_bi (m_k2 M s b j) → zz_W G Z md_Mo_isKept post 85 [(3, .inl x3), (2, .inl x2), (1, .inl (nI s)), (0, .inr (.inr (6, 0, 0)))] [] M := by
          intro g
          induction g with
          | zero => intro j hg; exact absurd hg (Nat.not_lt_zero _)
          | succ g ih2 => ?_
          intro j hg hj x3 x2 e3 e2
          subst e3; subst e2
          refine zz_b ok rfl (by and_intros <;> first | exact True.intro | with_reducible exact v0 | with_reducible exact v1436 | with_reducible exact v1437 | with_reducible exact v1438 | with_reducible exact v1647 | with_reducible exact v1728 | with_reducible exact v1734 | with_reducible exact vi1 (by omega) (by decide) | with_reducible exact vi2 (by omega) (by decide) | with_reducible exact vi3 (by omega) (by decide) | with_reducible exact vi1p (by omega) (by decide) | with_reducible exact vi2p (by omega) (by decide) | with_reducible exact vi4 (by omega) (by decide) | with_reducible exact vi4p (by omega) (by decide) | with_reducible exact vi5 (by omega) (by decide) | with_reducible exact vi5p (by omega) (by decide) | trivial | exact vi0 (by decide) (by decide)) rfl (fun h95 => ?_) (fun h95 => ?_)
          · skip
            try simp +decide only [z0, z1436, z1437, z1438, z1647, z1728, z1734, mi1 (n := s) (by omega), mi1p (b := s) (by omega), mi4 (a := s) (by omega), mi4p (a := s) (by omega), qg] at h95 ⊢
            try simp (disch := omega) only [if_neg] at h95 ⊢
            rw [hl.1, ni_ltn (by omega) (by omega)] at h95
            refine zz_b ok rfl trivial rfl (fun h99 => ?_) (fun h99 => ?_)
            · skip
              try simp +decide only [z0, z1436, z1437, z1438, z1647, z1728, z1734, mi1 (n := s) (by omega), mi1p (b := s) (by omega), mi4 (a := s) (by omega), mi4p (a := s) (by omega), qg] at h99 ⊢
              try simp (disch := omega) only [if_neg] at h99 ⊢
              simp only [zz_bi0, Bool.not_eq_false] at h99
              refine zz_g ok rfl trivial ?_
              refine zz_pm [3, 2, 1, 0] rfl ?_
              exact ih2 (j + 1) (by omega) (by omega) _ _ (nI_1 (j + 1)) (by simp [m_k2, zz_bi, h99])
            · skip
              try simp +decide only [z0, z1436, z1437, z1438, z1647, z1728, z1734, mi1 (n := s) (by omega), mi1p (b := s) (by omega), mi4 (a := s) (by omega), mi4p (a := s) (by omega), qg] at h99 ⊢
              try simp (disch := omega) only [if_neg] at h99 ⊢
              simp only [zz_bi0, Bool.not_eq_false] at h99
              refine zz_cV ok rfl trivial rfl lk_Mo_47 ca_Mo_part rfl rfl rfl rfl rfl (sp_Mo_part (i := j + 1) (w := 0) hG rfl hs (by rfl) (by omega) rfl (by decide) ?_)
              try simp +decide only [z0, z1436, z1437, z1438, z1647, z1728, z1734, mi1 (n := s) (by omega), mi1p (b := s) (by omega), mi4 (a := s) (by omega), mi4p (a := s) (by omega), qg]
              try simp (disch := omega) only [if_neg]
              refine zz_cV ok rfl trivial rfl lk_Mo_47 ca_Mo_part rfl rfl rfl rfl rfl (sp_Mo_part (i := j) (w := 0) hG rfl hs (by rw [ni_lit, ni_subn (by omega), Nat.add_sub_cancel]) (by omega) rfl (by decide) ?_)
              try simp +decide only [z0, z1436, z1437, z1438, z1647, z1728, z1734, mi1 (n := s) (by omega), mi1p (b := s) (by omega), mi4 (a := s) (by omega), mi4p (a := s) (by omega), qg]
              try simp (disch := omega) only [if_neg]
              refine zz_b ok rfl trivial rfl (fun h118 => ?_) (fun h118 => ?_)
              · skip
                try simp +decide only [z0, z1436, z1437, z1438, z1647, z1728, z1734, mi1 (n := s) (by omega), mi1p (b := s) (by omega), mi4 (a := s) (by omega), mi4p (a := s) (by omega), qg] at h118 ⊢
                try simp (disch := omega) only [if_neg] at h118 ⊢
                refine zz_g ok rfl trivial ?_
                refine zz_pm [3, 2, 1, 0] rfl ?_
                exact ih2 (j + 1) (by omega) (by omega) _ _ (nI_1 (j + 1)) (by simp [m_k2, zz_bi, h99, h118])
              · skip
                try simp +decide only [z0, z1436, z1437, z1438, z1647, z1728, z1734, mi1 (n := s) (by omega), mi1p (b := s) (by omega), mi4 (a := s) (by omega), mi4p (a := s) (by omega), qg] at h118 ⊢
                try simp (disch := omega) only [if_neg] at h118 ⊢
                refine zz_cV ok rfl trivial rfl lk_Mo_47 ca_Mo_part rfl rfl rfl rfl rfl (sp_Mo_part (i := j + 1) (w := 3) hG rfl hs (by rfl) (by omega) rfl (by decide) ?_)
                try simp +decide only [z0, z1436, z1437, z1438, z1647, z1728, z1734, mi1 (n := s) (by omega), mi1p (b := s) (by omega), mi4 (a := s) (by omega), mi4p (a := s) (by omega), qg]
                try simp (disch := omega) only [if_neg]
                refine zz_cV ok rfl trivial rfl lk_Mo_47 ca_Mo_part rfl rfl rfl rfl rfl (sp_Mo_part (i := j) (w := 3) hG rfl hs (by rw [ni_lit, ni_subn (by omega), Nat.add_sub_cancel]) (by omega) rfl (by decide) ?_)
                try simp +decide only [z0, z1436, z1437, z1438, z1647, z1728, z1734, mi1 (n := s) (by omega), mi1p (b := s) (by omega), mi4 (a := s) (by omega), mi4p (a := s) (by omega), qg]
                try simp (disch := omega) only [if_neg]
                refine zz_b ok rfl trivial rfl (fun h137 => ?_) (fun h137 => ?_)
                · skip
                  try simp +decide only [z0, z1436, z1437, z1438, z1647, z1728, z1734, mi1 (n := s) (by omega), mi1p (b := s) (by omega), mi4 (a := s) (by omega), mi4p (a := s) (by omega), qg] at h137 ⊢
                  try simp (disch := omega) only [if_neg] at h137 ⊢
                  refine zz_g ok rfl trivial ?_
                  refine zz_pm [3, 2, 1, 0] rfl ?_
                  exact ih2 (j + 1) (by omega) (by omega) _ _ (nI_1 (j + 1)) (by simp [m_k2, zz_bi, h99, h118, h137])
                · skip
                  try simp +decide only [z0, z1436, z1437, z1438, z1647, z1728, z1734, mi1 (n := s) (by omega), mi1p (b := s) (by omega), mi4 (a := s) (by omega), mi4p (a := s) (by omega), qg] at h137 ⊢
                  try simp (disch := omega) only [if_neg] at h137 ⊢
                  refine zz_g ok rfl trivial ?_
                  refine zz_pm [3, 2, 1, 0] rfl ?_
                  exact ih2 (j + 1) (by omega) (by omega) _ _ (nI_1 (j + 1)) (by simp [m_k2, zz_bi, h99, h118, h137])
          · skip
            try simp +decide only [z0, z1436, z1437, z1438, z1647, z1728, z1734, mi1 (n := s) (by omega), mi1p (b := s) (by omega), mi4 (a := s) (by omega), mi4p (a := s) (by omega), qg] at h95 ⊢
            try simp (disch := omega) only [if_neg] at h95 ⊢
            rw [hl.1, ni_ltn (by omega) (by omega)] at h95
            have hjn : j = mn M (51 + s) - 1 := by omega
            refine zz_z ok rfl trivial rfl rfl (by first | exact Or.inl rfl | exact Or.inr rfl | exact zz_bi01 _) ?_
            exact zz_pq h (by rw [m_kp, hb2, hjn]) rfl
        refine zz_g ok rfl trivial ?_
        refine zz_pm [3, 2, 1, 0] rfl ?_
        exact lp85 (mn M (51 + s) + 1) 0 (by omega) (by omega) _ _ rfl rfl
    refine zz_g ok rfl trivial ?_
    refine zz_pm [3, 2, 1, 0] rfl ?_
    exact lp28 (4 * mn M (56 + s) + 1) 0 (by omega) (by omega) _ _ true rfl rfl (by simp [h17])
theorem sp_Mo_isSafe {G : zG} {post : Option zV → zM → Prop} {M : zM} (hm : mw M) (hG : zz_go G) (h : post (some (.inl (zz_bi (m_is M 5)))) M) : zz_T G md_Mo_isSafe [.inr (.inr (6, 0, 0))] M post := by
  refine en_Mo_isSafe hG rfl (fun Z ok => ?_)
  refine zz_cV ok rfl trivial rfl lk_Mo_122 ca_Mo_holders rfl rfl rfl rfl rfl (sp_Mo_holders hG ?_)
  refine zz_cS ok rfl trivial rfl lk_Mo_116 ca_Mo_many rfl rfl rfl (sp_Mo_many hG ?_)
  refine zz_b ok rfl trivial rfl (fun h8 => ?_) (fun h8 => ?_)
  · skip
    have lp19 : ∀ (f k : Nat), 5 - k < f → k ≤ 5 → ∀ (x2 x1 : Int32), x2 = nI k → x1 = zz_bi (m_is M k) → zz_W G Z md_Mo_isSafe post 19 [(2, .inl x2), (1, .inl x1), (0, .inr (.inr (6, 0, 0)))] [] M := by
      intro f
      induction f with
      | zero => intro k hf; exact absurd hf (Nat.not_lt_zero _)
      | succ f ih => ?_
      intro k hf hk x2 x1 e2 e1
      subst e2; subst e1
      refine zz_b ok rfl trivial rfl (fun h21 => ?_) (fun h21 => ?_)
      · skip
        rw [ni_lit, ni_ltn (by omega) (by decide)] at h21
        have hk5 : k < 5 := h21
        refine zz_b ok rfl trivial rfl (fun h25 => ?_) (fun h25 => ?_)
        · skip
          simp only [zz_bi0, Bool.not_eq_false] at h25
          refine zz_g ok rfl trivial ?_
          refine zz_pm [2, 1, 0] rfl ?_
          exact ih (k + 1) (by omega) (by omega) _ _ (nI_1 k) (by simp [m_is, zz_bi, h25])
        · skip
          simp only [zz_bi0, Bool.not_eq_false] at h25
          refine zz_cV ok rfl trivial rfl lk_Mo_126 ca_Mo_isKept rfl rfl rfl rfl rfl (sp_Mo_isKept hm hG rfl hk5 ?_)
          refine zz_b ok rfl trivial rfl (fun h33 => ?_) (fun h33 => ?_)
          · skip
            simp only [zz_bi0, Bool.not_eq_false] at h33
            refine zz_g ok rfl trivial ?_
            refine zz_pm [2, 1, 0] rfl ?_
            exact ih (k + 1) (by omega) (by omega) _ _ (nI_1 k) (by simp [m_is, zz_bi, h25, h33])
          · skip
            simp only [zz_bi0, Bool.not_eq_false] at h33
            refine zz_g ok rfl trivial ?_
            refine zz_pm [2, 1, 0] rfl ?_
            exact ih (k + 1) (by omega) (by omega) _ _ (nI_1 k) (by simp [m_is, zz_bi, h25, h33])
      · skip
        rw [ni_lit, ni_ltn (by omega) (by decide)] at h21
        have hk6 : k = 5 := by omega
        subst hk6
        refine zz_b ok rfl trivial rfl (fun h49 => ?_) (fun h49 => ?_)
        · skip
          simp only [zz_bi0, Bool.not_eq_false] at h49
          refine zz_i ok rfl trivial rfl rfl ?_
          exact zz_pq h (by simp [h49, zz_bi]) rfl
        · skip
          simp only [zz_bi0, Bool.not_eq_false] at h49
          refine zz_i ok rfl trivial rfl rfl ?_
          exact zz_pq h (by simp [h49, zz_bi]) rfl
    refine zz_g ok rfl trivial ?_
    refine zz_pm [2, 1, 0] rfl ?_
    exact lp19 6 0 (by omega) (by omega) _ _ rfl (by simp [m_is, zz_bi, h8])
  · skip
    have lp19 : ∀ (f k : Nat), 5 - k < f → k ≤ 5 → ∀ (x2 x1 : Int32), x2 = nI k → x1 = zz_bi (m_is M k) → zz_W G Z md_Mo_isSafe post 19 [(2, .inl x2), (1, .inl x1), (0, .inr (.inr (6, 0, 0)))] [] M := by
      intro f
      induction f with
      | zero => intro k hf; exact absurd hf (Nat.not_lt_zero _)
      | succ f ih => ?_
      intro k hf hk x2 x1 e2 e1
      subst e2; subst e1
      refine zz_b ok rfl trivial rfl (fun h21 => ?_) (fun h21 => ?_)
      · skip
        rw [ni_lit, ni_ltn (by omega) (by decide)] at h21
        have hk5 : k < 5 := h21
        refine zz_b ok rfl trivial rfl (fun h25 => ?_) (fun h25 => ?_)
        · skip
          simp only [zz_bi0, Bool.not_eq_false] at h25
          refine zz_g ok rfl trivial ?_
          refine zz_pm [2, 1, 0] rfl ?_
          exact ih (k + 1) (by omega) (by omega) _ _ (nI_1 k) (by simp [m_is, zz_bi, h25])
        · skip
          simp only [zz_bi0, Bool.not_eq_false] at h25
          refine zz_cV ok rfl trivial rfl lk_Mo_126 ca_Mo_isKept rfl rfl rfl rfl rfl (sp_Mo_isKept hm hG rfl hk5 ?_)
          refine zz_b ok rfl trivial rfl (fun h33 => ?_) (fun h33 => ?_)
          · skip
            simp only [zz_bi0, Bool.not_eq_false] at h33
            refine zz_g ok rfl trivial ?_
            refine zz_pm [2, 1, 0] rfl ?_
            exact ih (k + 1) (by omega) (by omega) _ _ (nI_1 k) (by simp [m_is, zz_bi, h25, h33])
          · skip
            simp only [zz_bi0, Bool.not_eq_false] at h33
            refine zz_g ok rfl trivial ?_
            refine zz_pm [2, 1, 0] rfl ?_
            exact ih (k + 1) (by omega) (by omega) _ _ (nI_1 k) (by simp [m_is, zz_bi, h25, h33])
      · skip
        rw [ni_lit, ni_ltn (by omega) (by decide)] at h21
        have hk6 : k = 5 := by omega
        subst hk6
        refine zz_b ok rfl trivial rfl (fun h49 => ?_) (fun h49 => ?_)
        · skip
          simp only [zz_bi0, Bool.not_eq_false] at h49
          refine zz_i ok rfl trivial rfl rfl ?_
          exact zz_pq h (by simp [h49, zz_bi]) rfl
        · skip
          simp only [zz_bi0, Bool.not_eq_false] at h49
          refine zz_i ok rfl trivial rfl rfl ?_
          exact zz_pq h (by simp [h49, zz_bi]) rfl
    refine zz_g ok rfl trivial ?_
    refine zz_pm [2, 1, 0] rfl ?_
    exact lp19 6 0 (by omega) (by omega) _ _ rfl (by simp [m_is, zz_bi, h8])
theorem sp_Mo_linksUp {G : zG} {post : Option zV → zM → Prop} {M : zM} (hG : zz_go G) (h : post (some (.inl (m_lu M 5))) M) : zz_T G md_Mo_linksUp [.inr (.inr (6, 0, 0))] M post := by
  refine en_Mo_linksUp hG rfl (fun Z ok => ?_)
  have lp4 : ∀ (f k : Nat), 5 - k < f → k ≤ 5 → ∀ (x2 x1 : Int32), x2 = nI k → x1 = m_lu M k → zz_W G Z md_Mo_linksUp post 4 [(2, .inl x2), (1, .inl x1), (0, .inr (.inr (6, 0, 0)))] [] M := by
    intro f
    induction f with
    | zero => intro k hf; exact absurd hf (Nat.not_lt_zero _)
    | succ f ih => ?_
    intro k hf hk x2 x1 e2 e1
    subst e2; subst e1
    refine zz_b ok rfl trivial rfl (fun h6 => ?_) (fun h6 => ?_)
    · skip
      rw [ni_lit, ni_ltn (by omega) (by decide)] at h6
      have hk5 : k < 5 := h6
      have lp13 : ∀ (g c : Nat), 4 - k - c < g → c ≤ 4 - k → ∀ (x3 x1 : Int32), x3 = nI (k + 1 + c) → x1 = m_li M k c (m_lu M k) → zz_W G Z md_Mo_linksUp post 13 [(3, .inl x3), (2, .inl (nI k)), (1, .inl x1), (0, .inr (.inr (6, 0, 0)))] [] M := by
        intro g
        induction g with
        | zero => intro c hg; exact absurd hg (Nat.not_lt_zero _)
        | succ g ih2 => ?_
        intro c hg hc x3 x1 e3 e1
        subst e3; subst e1
        refine zz_b ok rfl trivial rfl (fun h15 => ?_) (fun h15 => ?_)
        · skip
          rw [ni_lit, ni_ltn (by omega) (by decide)] at h15
          refine zz_g ok rfl (by and_intros <;> first | exact True.intro | with_reducible exact v0 | with_reducible exact v1436 | with_reducible exact v1437 | with_reducible exact v1438 | with_reducible exact v1647 | with_reducible exact v1728 | with_reducible exact v1734 | with_reducible exact vi1 (by omega) (by decide) | with_reducible exact vi2 (by omega) (by decide) | with_reducible exact vi3 (by omega) (by decide) | with_reducible exact vi1p (by omega) (by decide) | with_reducible exact vi2p (by omega) (by decide) | with_reducible exact vi4 (by omega) (by decide) | with_reducible exact vi4p (by omega) (by decide) | with_reducible exact vi5 (by omega) (by decide) | with_reducible exact vi5p (by omega) (by decide) | trivial | exact vi0 (by decide) (by decide)) ?_
          refine zz_pm [3, 2, 1, 0] rfl ?_
          exact ih2 (c + 1) (by omega) (by omega) _ _ (nI_1 _) (by simp +decide only [mi2 (a := k) (b := k + 1 + c) (by omega) (by omega)]; rw [m_li])
        · skip
          rw [ni_lit, ni_ltn (by omega) (by decide)] at h15
          have hc4 : c = 4 - k := by omega
          subst hc4
          refine zz_g ok rfl trivial ?_
          refine zz_pm [2, 1, 0] rfl ?_
          exact ih (k + 1) (by omega) (by omega) _ _ (nI_1 k) rfl
      refine zz_g ok rfl trivial ?_
      refine zz_pm [3, 2, 1, 0] rfl ?_
      exact lp13 6 0 (by omega) (by omega) _ _ (nI_1 k) rfl
    · skip
      rw [ni_lit, ni_ltn (by omega) (by decide)] at h6
      have hk6 : k = 5 := by omega
      subst hk6
      refine zz_i ok rfl trivial rfl rfl ?_
      exact h
  refine zz_g ok rfl trivial ?_
  refine zz_pm [2, 1, 0] rfl ?_
  exact lp4 6 0 (by omega) (by omega) _ _ rfl rfl
theorem sp_Mo_count {G : zG} {post : Option zV → zM → Prop} {M : zM} {w : Int32} (hG : zz_go G) (h : post (some (.inl (m_count M w))) M) : zz_T G md_Mo_count [.inr (.inr (6, 0, 0)), .inl w] M post := by
  refine en_Mo_count hG rfl (fun Z ok => ?_)
  refine zz_g ok rfl trivial ?_
  refine zz_tsw ok sw_Mo_count_1 [(0, 60), (1, 67), (2, 72), (3, 81), (4, 90), (5, 99), (6, 108), (7, 117), (8, 122), (9, 127), (10, 132)] 137 (by decide +kernel) ?_
  refine ⟨fun h1_0 => ?_, fun h1_0 => ?_⟩
  · skip
    refine zz_i ok rfl (by and_intros <;> first | exact True.intro | with_reducible exact v0 | with_reducible exact v1436 | with_reducible exact v1437 | with_reducible exact v1438 | with_reducible exact v1647 | with_reducible exact v1728 | with_reducible exact v1734 | with_reducible exact vi1 (by omega) (by decide) | with_reducible exact vi2 (by omega) (by decide) | with_reducible exact vi3 (by omega) (by decide) | with_reducible exact vi1p (by omega) (by decide) | with_reducible exact vi2p (by omega) (by decide) | with_reducible exact vi4 (by omega) (by decide) | with_reducible exact vi4p (by omega) (by decide) | with_reducible exact vi5 (by omega) (by decide) | with_reducible exact vi5p (by omega) (by decide) | trivial | exact vi0 (by decide) (by decide)) rfl rfl ?_
    exact zz_pq h (by simp [m_count, z0, z1436, z1437, z1438, z1647, z1728, h1_0]) rfl
  refine ⟨fun h1_1 => ?_, fun h1_1 => ?_⟩
  · skip
    refine zz_i ok rfl trivial rfl rfl ?_
    exact zz_pq h (by simp [m_count, z0, z1436, z1437, z1438, z1647, z1728, h1_0, h1_1]) rfl
  refine ⟨fun h1_2 => ?_, fun h1_2 => ?_⟩
  · skip
    refine zz_i ok rfl (by and_intros <;> first | exact True.intro | with_reducible exact v0 | with_reducible exact v1436 | with_reducible exact v1437 | with_reducible exact v1438 | with_reducible exact v1647 | with_reducible exact v1728 | with_reducible exact v1734 | with_reducible exact vi1 (by omega) (by decide) | with_reducible exact vi2 (by omega) (by decide) | with_reducible exact vi3 (by omega) (by decide) | with_reducible exact vi1p (by omega) (by decide) | with_reducible exact vi2p (by omega) (by decide) | with_reducible exact vi4 (by omega) (by decide) | with_reducible exact vi4p (by omega) (by decide) | with_reducible exact vi5 (by omega) (by decide) | with_reducible exact vi5p (by omega) (by decide) | trivial | exact vi0 (by decide) (by decide)) rfl rfl ?_
    exact zz_pq h (by simp [m_count, z0, z1436, z1437, z1438, z1647, z1728, h1_0, h1_1, h1_2]) rfl
  refine ⟨fun h1_3 => ?_, fun h1_3 => ?_⟩
  · skip
    refine zz_i ok rfl (by and_intros <;> first | exact True.intro | with_reducible exact v0 | with_reducible exact v1436 | with_reducible exact v1437 | with_reducible exact v1438 | with_reducible exact v1647 | with_reducible exact v1728 | with_reducible exact v1734 | with_reducible exact vi1 (by omega) (by decide) | with_reducible exact vi2 (by omega) (by decide) | with_reducible exact vi3 (by omega) (by decide) | with_reducible exact vi1p (by omega) (by decide) | with_reducible exact vi2p (by omega) (by decide) | with_reducible exact vi4 (by omega) (by decide) | with_reducible exact vi4p (by omega) (by decide) | with_reducible exact vi5 (by omega) (by decide) | with_reducible exact vi5p (by omega) (by decide) | trivial | exact vi0 (by decide) (by decide)) rfl rfl ?_
    exact zz_pq h (by simp [m_count, z0, z1436, z1437, z1438, z1647, z1728, h1_0, h1_1, h1_2, h1_3]) rfl
  refine ⟨fun h1_4 => ?_, fun h1_4 => ?_⟩
  · skip
    refine zz_i ok rfl (by and_intros <;> first | exact True.intro | with_reducible exact v0 | with_reducible exact v1436 | with_reducible exact v1437 | with_reducible exact v1438 | with_reducible exact v1647 | with_reducible exact v1728 | with_reducible exact v1734 | with_reducible exact vi1 (by omega) (by decide) | with_reducible exact vi2 (by omega) (by decide) | with_reducible exact vi3 (by omega) (by decide) | with_reducible exact vi1p (by omega) (by decide) | with_reducible exact vi2p (by omega) (by decide) | with_reducible exact vi4 (by omega) (by decide) | with_reducible exact vi4p (by omega) (by decide) | with_reducible exact vi5 (by omega) (by decide) | with_reducible exact vi5p (by omega) (by decide) | trivial | exact vi0 (by decide) (by decide)) rfl rfl ?_
    exact zz_pq h (by simp [m_count, z0, z1436, z1437, z1438, z1647, z1728, h1_0, h1_1, h1_2, h1_3, h1_4]) rfl
  refine ⟨fun h1_5 => ?_, fun h1_5 => ?_⟩
  · skip
    refine zz_i ok rfl (by and_intros <;> first | exact True.intro | with_reducible exact v0 | with_reducible exact v1436 | with_reducible exact v1437 | with_reducible exact v1438 | with_reducible exact v1647 | with_reducible exact v1728 | with_reducible exact v1734 | with_reducible exact vi1 (by omega) (by decide) | with_reducible exact vi2 (by omega) (by decide) | with_reducible exact vi3 (by omega) (by decide) | with_reducible exact vi1p (by omega) (by decide) | with_reducible exact vi2p (by omega) (by decide) | with_reducible exact vi4 (by omega) (by decide) | with_reducible exact vi4p (by omega) (by decide) | with_reducible exact vi5 (by omega) (by decide) | with_reducible exact vi5p (by omega) (by decide) | trivial | exact vi0 (by decide) (by decide)) rfl rfl ?_
    exact zz_pq h (by simp [m_count, z0, z1436, z1437, z1438, z1647, z1728, h1_0, h1_1, h1_2, h1_3, h1_4, h1_5]) rfl
  refine ⟨fun h1_6 => ?_, fun h1_6 => ?_⟩
  · skip
    refine zz_i ok rfl (by and_intros <;> first | exact True.intro | with_reducible exact v0 | with_reducible exact v1436 | with_reducible exact v1437 | with_reducible exact v1438 | with_reducible exact v1647 | with_reducible exact v1728 | with_reducible exact v1734 | with_reducible exact vi1 (by omega) (by decide) | with_reducible exact vi2 (by omega) (by decide) | with_reducible exact vi3 (by omega) (by decide) | with_reducible exact vi1p (by omega) (by decide) | with_reducible exact vi2p (by omega) (by decide) | with_reducible exact vi4 (by omega) (by decide) | with_reducible exact vi4p (by omega) (by decide) | with_reducible exact vi5 (by omega) (by decide) | with_reducible exact vi5p (by omega) (by decide) | trivial | exact vi0 (by decide) (by decide)) rfl rfl ?_
    exact zz_pq h (by simp [m_count, z0, z1436, z1437, z1438, z1647, z1728, h1_0, h1_1, h1_2, h1_3, h1_4, h1_5, h1_6]) rfl
  refine ⟨fun h1_7 => ?_, fun h1_7 => ?_⟩
  · skip
    refine zz_i ok rfl trivial rfl rfl ?_
    exact zz_pq h (by simp [m_count, z0, z1436, z1437, z1438, z1647, z1728, h1_0, h1_1, h1_2, h1_3, h1_4, h1_5, h1_6, h1_7]) rfl
  refine ⟨fun h1_8 => ?_, fun h1_8 => ?_⟩
  · skip
    refine zz_i ok rfl trivial rfl rfl ?_
    exact zz_pq h (by simp [m_count, z0, z1436, z1437, z1438, z1647, z1728, h1_0, h1_1, h1_2, h1_3, h1_4, h1_5, h1_6, h1_7, h1_8]) rfl
  refine ⟨fun h1_9 => ?_, fun h1_9 => ?_⟩
  · skip
    refine zz_cV ok rfl trivial rfl lk_Mo_122 ca_Mo_holders rfl rfl rfl rfl rfl (sp_Mo_holders hG ?_)
    refine zz_i ok rfl trivial rfl rfl ?_
    exact zz_pq h (by simp [m_count, z0, z1436, z1437, z1438, z1647, z1728, h1_0, h1_1, h1_2, h1_3, h1_4, h1_5, h1_6, h1_7, h1_8, h1_9]) rfl
  refine ⟨fun h1_10 => ?_, fun h1_10 => ?_⟩
  · skip
    refine zz_cV ok rfl trivial rfl lk_Mo_188 ca_Mo_linksUp rfl rfl rfl rfl rfl (sp_Mo_linksUp hG ?_)
    refine zz_i ok rfl trivial rfl rfl ?_
    exact zz_pq h (by simp [m_count, z0, z1436, z1437, z1438, z1647, z1728, h1_0, h1_1, h1_2, h1_3, h1_4, h1_5, h1_6, h1_7, h1_8, h1_9, h1_10]) rfl
  refine zz_i ok rfl trivial rfl rfl ?_
  exact zz_pq h (by simp [m_count, z0, z1436, z1437, z1438, z1647, z1728, h1_0, h1_1, h1_2, h1_3, h1_4, h1_5, h1_6, h1_7, h1_8, h1_9, h1_10]) rfl
theorem sp_Mo_save {G : zG} {post : Option zV → zM → Prop} {M : zM} {k : Int32} (hG : zz_go G) (h : post (some (.inl (m_save M k).1)) (m_save M k).2) : zz_T G md_Mo_save [.inr (.inr (6, 0, 0)), .inl k] M post := by
  refine en_Mo_save hG rfl (fun Z ok => ?_)
  refine zz_cS ok rfl trivial rfl lk_Mo_32 ca_Mo_in rfl rfl rfl (sp_Mo_in hG ?_)
  refine zz_b ok rfl trivial rfl (fun h6 => ?_) (fun h6 => ?_)
  · skip
    have h6 := wi_of h6
    refine zz_i ok rfl trivial rfl rfl ?_
    exact zz_pq h (by simp [m_save, nsv, h6]) (by simp [m_save, nsv, h6])
  · skip
    have h6 := wi_nof h6
    obtain ⟨k, hk, rfl⟩ := ni_w (N := 1) (by decide) h6.1 h6.2
    have ek : zz_ix (nI k) = k := zz_ixn (by omega)
    have lp15 : ∀ (f i : Nat), 1735 - i < f → i ≤ 1735 → ∀ (x2 : Int32) (M' : zM), x2 = nI i → M' = zz_cpy M (20, 0, 0) (21, 0, 0) 0 (1735 * k) i → zz_W G Z md_Mo_save post 15 [(2, .inl x2), (1, .inl (nI k)), (0, .inr (.inr (6, 0, 0)))] [] M' := by
      intro f
      induction f with
      | zero => intro i hf; exact absurd hf (Nat.not_lt_zero _)
      | succ f ih => ?_
      intro i hf hi x2 M' e2 eM
      subst e2
      refine zz_b ok rfl trivial rfl (fun h19 => ?_) (fun h19 => ?_)
      · skip
        rw [ni_lit, ni_ltn (by omega) (by decide)] at h19
        refine zz_g ok rfl (by and_intros <;> first | exact True.intro | with_reducible exact vi6 (by omega) (by decide) | with_reducible exact ni_in (by omega) (by decide) | exact ni_in (n := 0) (by decide) (by decide)) ?_
        refine zz_pm [2, 1, 0] rfl ?_
        exact ih (i + 1) (by omega) (by omega) _ _ (nI_1 i) (by simp +decide only [mi6 (a := k) (b := i) (by omega) (by omega), zz_ixn (show i < 2147483648 by omega)]; rw [← cpy_step (by intro z; cases z), ← eM, Nat.zero_add])
      · skip
        rw [ni_lit, ni_ltn (by omega) (by decide)] at h19
        have hi6 : i = 1735 := by omega
        subst hi6
        refine zz_i ok rfl (by and_intros <;> first | exact True.intro | with_reducible exact vi6 (by omega) (by decide) | with_reducible exact ni_in (by omega) (by decide) | exact ni_in (n := 0) (by decide) (by decide)) rfl rfl ?_
        exact zz_pq h (by simp [m_save, h6, ek, zz_gs, eM, zz_gc, z0]) (by simp [m_save, h6, ek, eM])
    refine zz_g ok rfl trivial ?_
    refine zz_pm [2, 1, 0] rfl ?_
    exact lp15 1736 0 (by omega) (by omega) _ _ rfl (cpy0 _ _ _ _ _).symm
theorem sp_Mo_restore {G : zG} {post : Option zV → zM → Prop} {M : zM} {k : Int32} (hG : zz_go G) (h : post (some (.inl (m_restore M k).1)) (m_restore M k).2) : zz_T G md_Mo_restore [.inr (.inr (6, 0, 0)), .inl k] M post := by
  refine en_Mo_restore hG rfl (fun Z ok => ?_)
  refine zz_cS ok rfl trivial rfl lk_Mo_32 ca_Mo_in rfl rfl rfl (sp_Mo_in hG ?_)
  refine zz_b ok rfl trivial rfl (fun h6 => ?_) (fun h6 => ?_)
  · skip
    have h6 := wi_of h6
    refine zz_i ok rfl trivial rfl rfl ?_
    exact zz_pq h (by simp [m_restore, nsv, h6]) (by simp [m_restore, nsv, h6])
  · skip
    have h6 := wi_nof h6
    obtain ⟨k, hk, rfl⟩ := ni_w (N := 1) (by decide) h6.1 h6.2
    have ek : zz_ix (nI k) = k := zz_ixn (by omega)
    refine zz_b ok rfl (by and_intros <;> first | exact True.intro | with_reducible exact vi6 (by omega) (by decide) | with_reducible exact ni_in (by omega) (by decide) | exact ni_in (n := 0) (by decide) (by decide)) rfl (fun h19 => ?_) (fun h19 => ?_)
    · skip
      rw [ek] at h19
      refine zz_i ok rfl trivial rfl rfl ?_
      exact zz_pq h (by simp [m_restore, h6, ek, h19]) (by simp [m_restore, h6, ek, h19])
    · skip
      rw [ek] at h19
      have lp28 : ∀ (f i : Nat), 1735 - i < f → i ≤ 1735 → ∀ (x2 : Int32) (M' : zM), x2 = nI i → M' = zz_cpy M (21, 0, 0) (20, 0, 0) (1735 * k) 0 i → zz_W G Z md_Mo_restore post 28 [(2, .inl x2), (1, .inl (nI k)), (0, .inr (.inr (6, 0, 0)))] [] M' := by
        intro f
        induction f with
        | zero => intro i hf; exact absurd hf (Nat.not_lt_zero _)
        | succ f ih => ?_
        intro i hf hi x2 M' e2 eM
        subst e2
        refine zz_b ok rfl trivial rfl (fun h32 => ?_) (fun h32 => ?_)
        · skip
          rw [ni_lit, ni_ltn (by omega) (by decide)] at h32
          refine zz_g ok rfl (by and_intros <;> first | exact True.intro | with_reducible exact vi6 (by omega) (by decide) | with_reducible exact ni_in (by omega) (by decide) | exact ni_in (n := 0) (by decide) (by decide)) ?_
          refine zz_pm [2, 1, 0] rfl ?_
          exact ih (i + 1) (by omega) (by omega) _ _ (nI_1 i) (by simp +decide only [mi6 (a := k) (b := i) (by omega) (by omega), zz_ixn (show i < 2147483648 by omega)]; rw [← cpy_step (by intro z; cases z), ← eM, Nat.zero_add])
        · skip
          rw [ni_lit, ni_ltn (by omega) (by decide)] at h32
          have hi6 : i = 1735 := by omega
          subst hi6
          refine zz_i ok rfl (by and_intros <;> first | exact True.intro | with_reducible exact vi6 (by omega) (by decide) | with_reducible exact ni_in (by omega) (by decide) | exact ni_in (n := 0) (by decide) (by decide)) rfl rfl ?_
          exact zz_pq h (by simp [m_restore, h6, ek, h19, eM, zz_gc, va_cpy, z0]) (by simp [m_restore, h6, ek, h19, eM])
      refine zz_g ok rfl trivial ?_
      refine zz_pm [2, 1, 0] rfl ?_
      exact lp28 1736 0 (by omega) (by omega) _ _ rfl (cpy0 _ _ _ _ _).symm
theorem sp_Mo_type {G : zG} {post : Option zV → zM → Prop} {M : zM} {l : Int32} {n : Nat} (hl : M.1 (6, 0, 0) 5 = nI n) (hn : n ≤ 100) (hG : zz_go G) (h : post (some (.inl (m_type M n l).1)) (m_type M n l).2) : zz_T G md_Mo_type [.inr (.inr (6, 0, 0)), .inl l] M post := by
  refine en_Mo_type hG rfl (fun Z ok => ?_)
  refine zz_cS ok rfl trivial rfl lk_Mo_32 ca_Mo_in rfl rfl rfl (sp_Mo_in hG ?_)
  refine zz_b ok rfl trivial rfl (fun h7 => ?_) (fun h7 => ?_)
  · skip
    have h7 := wi_of h7
    refine zz_i ok rfl trivial rfl rfl ?_
    exact zz_pq h (by simp [m_type, nsv, h7]) (by simp [m_type, nsv, h7])
  · skip
    have h7 := wi_nof h7
    refine zz_b ok rfl trivial rfl (fun h20 => ?_) (fun h20 => ?_)
    · skip
      rw [hl, ni_lit, ni_eqn (by omega) (by decide)] at h20
      refine zz_i ok rfl trivial rfl rfl ?_
      exact zz_pq h (by simp [m_type, nsv, h7, h20]) (by simp [m_type, nsv, h7, h20])
    · skip
      rw [hl, ni_lit, ni_eqn (by omega) (by decide)] at h20
      refine zz_i ok rfl (by rw [hl]; exact ⟨ni_in (by omega) (by decide), trivial⟩) rfl rfl ?_
      exact zz_pq h (by simp [m_type, h7, h20, zz_gs, hl, nI_1]) (by simp [m_type, h7, h20, zz_gs, hl, nI_1, zz_ixn (show n < 2147483648 by omega)])
theorem sp_Mo_clear {G : zG} {post : Option zV → zM → Prop} {M : zM} (hG : zz_go G) (h : post (some (.inl (M.1 (6, 0, 0) 5))) (zz_set M (6, 0, 0) 5 0)) : zz_T G md_Mo_clear [.inr (.inr (6, 0, 0))] M post := by
  refine en_Mo_clear hG rfl (fun Z ok => ?_)
  refine zz_i ok rfl trivial rfl rfl ?_
  exact h
theorem sp_Mo_result {G : zG} {post : Option zV → zM → Prop} {M : zM} {i : Int32} {r : Nat} (hr : M.1 (6, 0, 0) 6 = nI r) (hr5 : r ≤ 50) (hG : zz_go G) (h : post (some (.inl (m_result M i))) M) : zz_T G md_Mo_result [.inr (.inr (6, 0, 0)), .inl i] M post := by
  refine en_Mo_result hG rfl (fun Z ok => ?_)
  refine zz_b ok rfl trivial rfl (fun h1 => ?_) (fun h1 => ?_)
  · skip
    refine zz_i ok rfl trivial rfl rfl ?_
    exact zz_pq h (by simp [m_result, nsv, h1]) rfl
  · skip
    refine zz_b ok rfl trivial rfl (fun h13 => ?_) (fun h13 => ?_)
    · skip
      refine zz_i ok rfl (by obtain ⟨c, hc, e⟩ := ni_ofr hr (by omega) h1 h13; exact ⟨ni_inx e (by omega) (by decide), trivial⟩) rfl rfl ?_
      exact zz_pq h (by simp [m_result, nsv, h1, h13]) rfl
    · skip
      refine zz_i ok rfl trivial rfl rfl ?_
      exact zz_pq h (by simp [m_result, nsv, h1, h13]) rfl
