theorem sp_Mo_write {G : zG} {post : Option zV → zM → Prop} {M : zM} {a k v : Int32} (hm : mw M) (hd : mdl M) (hG : zz_go G) (h : post (some (.inl (m_write M a k v).1)) (m_write M a k v).2) : zz_T G md_Mo_write [.inr (.inr (6, 0, 0)), .inl a, .inl k, .inl v] M post := by
  refine en_Mo_write hG rfl (fun Z ok => ?_)
  refine zz_cS ok rfl trivial rfl lk_Mo_32 ca_Mo_in rfl rfl rfl (sp_Mo_in hG ?_)
  refine zz_b ok rfl trivial rfl (fun h7 => ?_) (fun h7 => ?_)
  · skip
    have h7 := wi_of h7
    refine zz_i ok rfl trivial rfl rfl ?_
    exact zz_pq h (by simp [m_write, m_writes, nsv, h7]) (by simp [m_write, m_writes, nsv, h7])
  · skip
    have h7 := wi_nof h7
    refine zz_cS ok rfl trivial rfl lk_Mo_32 ca_Mo_in rfl rfl rfl (sp_Mo_in hG ?_)
    refine zz_b ok rfl trivial rfl (fun h18 => ?_) (fun h18 => ?_)
    · skip
      have h18 := wi_of h18
      refine zz_i ok rfl trivial rfl rfl ?_
      exact zz_pq h (by simp [m_write, m_writes, nsv, h7, h18]) (by simp [m_write, m_writes, nsv, h7, h18])
    · skip
      have h18 := wi_nof h18
      refine zz_cV ok rfl trivial rfl lk_Mo_102 ca_Mo_writes rfl rfl rfl rfl rfl (sp_Mo_writes hm hd hG ?_)
      refine zz_i ok rfl trivial rfl rfl ?_
      exact zz_pq h (by simp [m_write, m_writes, nsv, h7, h18]) (by simp [m_write, m_writes, nsv, h7, h18])
theorem sp_Mo_barrier {G : zG} {post : Option zV → zM → Prop} {M : zM} {a : Int32} (hm : mw M) (hd : mdl M) (hG : zz_go G) (h : post (some (.inl (m_barrier M a).1)) (m_barrier M a).2) : zz_T G md_Mo_barrier [.inr (.inr (6, 0, 0)), .inl a] M post := by
  refine en_Mo_barrier hG rfl (fun Z ok => ?_)
  refine zz_cV ok rfl trivial rfl lk_Mo_102 ca_Mo_writes rfl rfl rfl rfl rfl (sp_Mo_writes hm hd hG ?_)
  refine zz_i ok rfl trivial rfl rfl ?_
  exact h
theorem sp_Mo_handOver {G : zG} {post : Option zV → zM → Prop} {M : zM} {a b d : Int32} (hm : mw M) (hG : zz_go G) (h : post (some (.inl (m_handOver M a b d).1)) (m_handOver M a b d).2) : zz_T G md_Mo_handOver [.inr (.inr (6, 0, 0)), .inl a, .inl b, .inl d] M post := by
  refine en_Mo_handOver hG rfl (fun Z ok => ?_)
  refine zz_cS ok rfl trivial rfl lk_Mo_54 ca_Mo_isServer rfl rfl rfl (sp_Mo_isServer hG ?_)
  try simp +decide only [z0, z1436, z1437, z1438, z1647, z1728, z1734, mi1 (n := s) (by omega), mi1p (b := s) (by omega), mi4 (a := s) (by omega), mi4p (a := s) (by omega), mi1 (n := v) (by omega), mi1p (b := v) (by omega), mi4 (a := v) (by omega), mi4p (a := v) (by omega), mi2 (a := s) (b := v) (by omega) (by omega), mi2p (a := s) (b := v) (by omega) (by omega), mi2 (a := v) (b := s) (by omega) (by omega), mi2p (a := v) (b := s) (by omega) (by omega), qg]
  try simp (disch := omega) only [if_neg]
  refine zz_b ok rfl trivial rfl (fun h4 => ?_) (fun h4 => ?_)
  · skip
    try simp +decide only [z0, z1436, z1437, z1438, z1647, z1728, z1734, mi1 (n := s) (by omega), mi1p (b := s) (by omega), mi4 (a := s) (by omega), mi4p (a := s) (by omega), mi1 (n := v) (by omega), mi1p (b := v) (by omega), mi4 (a := v) (by omega), mi4p (a := v) (by omega), mi2 (a := s) (b := v) (by omega) (by omega), mi2p (a := s) (b := v) (by omega) (by omega), mi2 (a := v) (b := s) (by omega) (by omega), mi2p (a := v) (b := s) (by omega) (by omega), qg] at h4 ⊢
    try simp (disch := omega) only [if_neg] at h4 ⊢
    have h4 := wi_of h4
    refine zz_i ok rfl trivial rfl rfl ?_
    exact zz_pq h (by simp [m_handOver, nsv, h4]) (by simp [m_handOver, nsv, h4])
  · skip
    try simp +decide only [z0, z1436, z1437, z1438, z1647, z1728, z1734, mi1 (n := s) (by omega), mi1p (b := s) (by omega), mi4 (a := s) (by omega), mi4p (a := s) (by omega), mi1 (n := v) (by omega), mi1p (b := v) (by omega), mi4 (a := v) (by omega), mi4p (a := v) (by omega), mi2 (a := s) (b := v) (by omega) (by omega), mi2p (a := s) (b := v) (by omega) (by omega), mi2 (a := v) (b := s) (by omega) (by omega), mi2p (a := v) (b := s) (by omega) (by omega), qg] at h4 ⊢
    try simp (disch := omega) only [if_neg] at h4 ⊢
    have h4 := wi_nof h4
    obtain ⟨s, hs, rfl⟩ := ni_w (N := 4) (by decide) h4.1 h4.2
    refine zz_cS ok rfl trivial rfl lk_Mo_54 ca_Mo_isServer rfl rfl rfl (sp_Mo_isServer hG ?_)
    try simp +decide only [z0, z1436, z1437, z1438, z1647, z1728, z1734, mi1 (n := s) (by omega), mi1p (b := s) (by omega), mi4 (a := s) (by omega), mi4p (a := s) (by omega), mi1 (n := v) (by omega), mi1p (b := v) (by omega), mi4 (a := v) (by omega), mi4p (a := v) (by omega), mi2 (a := s) (b := v) (by omega) (by omega), mi2p (a := s) (b := v) (by omega) (by omega), mi2 (a := v) (b := s) (by omega) (by omega), mi2p (a := v) (b := s) (by omega) (by omega), qg]
    try simp (disch := omega) only [if_neg]
    refine zz_b ok rfl trivial rfl (fun h11 => ?_) (fun h11 => ?_)
    · skip
      try simp +decide only [z0, z1436, z1437, z1438, z1647, z1728, z1734, mi1 (n := s) (by omega), mi1p (b := s) (by omega), mi4 (a := s) (by omega), mi4p (a := s) (by omega), mi1 (n := v) (by omega), mi1p (b := v) (by omega), mi4 (a := v) (by omega), mi4p (a := v) (by omega), mi2 (a := s) (b := v) (by omega) (by omega), mi2p (a := s) (b := v) (by omega) (by omega), mi2 (a := v) (b := s) (by omega) (by omega), mi2p (a := v) (b := s) (by omega) (by omega), qg] at h11 ⊢
      try simp (disch := omega) only [if_neg] at h11 ⊢
      have h11 := wi_of h11
      refine zz_i ok rfl trivial rfl rfl ?_
      exact zz_pq h (by simp [m_handOver, nsv, zz_ixn (show s < 2147483648 by omega), mi1 (n := s) (by omega), h4, h11]) (by simp [m_handOver, nsv, zz_ixn (show s < 2147483648 by omega), mi1 (n := s) (by omega), h4, h11])
    · skip
      try simp +decide only [z0, z1436, z1437, z1438, z1647, z1728, z1734, mi1 (n := s) (by omega), mi1p (b := s) (by omega), mi4 (a := s) (by omega), mi4p (a := s) (by omega), mi1 (n := v) (by omega), mi1p (b := v) (by omega), mi4 (a := v) (by omega), mi4p (a := v) (by omega), mi2 (a := s) (b := v) (by omega) (by omega), mi2p (a := s) (b := v) (by omega) (by omega), mi2 (a := v) (b := s) (by omega) (by omega), mi2p (a := v) (b := s) (by omega) (by omega), qg] at h11 ⊢
      try simp (disch := omega) only [if_neg] at h11 ⊢
      have h11 := wi_nof h11
      obtain ⟨v, hv, rfl⟩ := ni_w (N := 4) (by decide) h11.1 h11.2
      refine zz_b ok rfl trivial rfl (fun h16 => ?_) (fun h16 => ?_)
      · skip
        try simp +decide only [z0, z1436, z1437, z1438, z1647, z1728, z1734, mi1 (n := s) (by omega), mi1p (b := s) (by omega), mi4 (a := s) (by omega), mi4p (a := s) (by omega), mi1 (n := v) (by omega), mi1p (b := v) (by omega), mi4 (a := v) (by omega), mi4p (a := v) (by omega), mi2 (a := s) (b := v) (by omega) (by omega), mi2p (a := s) (b := v) (by omega) (by omega), mi2 (a := v) (b := s) (by omega) (by omega), mi2p (a := v) (b := s) (by omega) (by omega), qg] at h16 ⊢
        try simp (disch := omega) only [if_neg] at h16 ⊢
        refine zz_i ok rfl trivial rfl rfl ?_
        exact zz_pq h (by simp [m_handOver, nsv, zz_ixn (show s < 2147483648 by omega), mi1 (n := s) (by omega), zz_ixn (show v < 2147483648 by omega), mi1 (n := v) (by omega), h4, h11, h16]) (by simp [m_handOver, nsv, zz_ixn (show s < 2147483648 by omega), mi1 (n := s) (by omega), zz_ixn (show v < 2147483648 by omega), mi1 (n := v) (by omega), h4, h11, h16])
      · skip
        try simp +decide only [z0, z1436, z1437, z1438, z1647, z1728, z1734, mi1 (n := s) (by omega), mi1p (b := s) (by omega), mi4 (a := s) (by omega), mi4p (a := s) (by omega), mi1 (n := v) (by omega), mi1p (b := v) (by omega), mi4 (a := v) (by omega), mi4p (a := v) (by omega), mi2 (a := s) (b := v) (by omega) (by omega), mi2p (a := s) (b := v) (by omega) (by omega), mi2 (a := v) (b := s) (by omega) (by omega), mi2p (a := v) (b := s) (by omega) (by omega), qg] at h16 ⊢
        try simp (disch := omega) only [if_neg] at h16 ⊢
        refine zz_cS ok rfl trivial rfl lk_Mo_32 ca_Mo_in rfl rfl rfl (sp_Mo_in hG ?_)
        try simp +decide only [z0, z1436, z1437, z1438, z1647, z1728, z1734, mi1 (n := s) (by omega), mi1p (b := s) (by omega), mi4 (a := s) (by omega), mi4p (a := s) (by omega), mi1 (n := v) (by omega), mi1p (b := v) (by omega), mi4 (a := v) (by omega), mi4p (a := v) (by omega), mi2 (a := s) (b := v) (by omega) (by omega), mi2p (a := s) (b := v) (by omega) (by omega), mi2 (a := v) (b := s) (by omega) (by omega), mi2p (a := v) (b := s) (by omega) (by omega), qg]
        try simp (disch := omega) only [if_neg]
        refine zz_b ok rfl trivial rfl (fun h26 => ?_) (fun h26 => ?_)
        · skip
          try simp +decide only [z0, z1436, z1437, z1438, z1647, z1728, z1734, mi1 (n := s) (by omega), mi1p (b := s) (by omega), mi4 (a := s) (by omega), mi4p (a := s) (by omega), mi1 (n := v) (by omega), mi1p (b := v) (by omega), mi4 (a := v) (by omega), mi4p (a := v) (by omega), mi2 (a := s) (b := v) (by omega) (by omega), mi2p (a := s) (b := v) (by omega) (by omega), mi2 (a := v) (b := s) (by omega) (by omega), mi2p (a := v) (b := s) (by omega) (by omega), qg] at h26 ⊢
          try simp (disch := omega) only [if_neg] at h26 ⊢
          have h26 := wi_of h26
          refine zz_i ok rfl trivial rfl rfl ?_
          exact zz_pq h (by simp [m_handOver, nsv, zz_ixn (show s < 2147483648 by omega), mi1 (n := s) (by omega), zz_ixn (show v < 2147483648 by omega), mi1 (n := v) (by omega), h4, h11, h16, h26]) (by simp [m_handOver, nsv, zz_ixn (show s < 2147483648 by omega), mi1 (n := s) (by omega), zz_ixn (show v < 2147483648 by omega), mi1 (n := v) (by omega), h4, h11, h16, h26])
        · skip
          try simp +decide only [z0, z1436, z1437, z1438, z1647, z1728, z1734, mi1 (n := s) (by omega), mi1p (b := s) (by omega), mi4 (a := s) (by omega), mi4p (a := s) (by omega), mi1 (n := v) (by omega), mi1p (b := v) (by omega), mi4 (a := v) (by omega), mi4p (a := v) (by omega), mi2 (a := s) (b := v) (by omega) (by omega), mi2p (a := s) (b := v) (by omega) (by omega), mi2 (a := v) (b := s) (by omega) (by omega), mi2p (a := v) (b := s) (by omega) (by omega), qg] at h26 ⊢
          try simp (disch := omega) only [if_neg] at h26 ⊢
          have h26 := wi_nof h26
          refine zz_cV ok rfl trivial rfl lk_Mo_81 ca_Mo_hasIt rfl rfl rfl rfl rfl (sp_Mo_hasIt hG rfl hs ?_)
          try simp +decide only [z0, z1436, z1437, z1438, z1647, z1728, z1734, mi1 (n := s) (by omega), mi1p (b := s) (by omega), mi4 (a := s) (by omega), mi4p (a := s) (by omega), mi1 (n := v) (by omega), mi1p (b := v) (by omega), mi4 (a := v) (by omega), mi4p (a := v) (by omega), mi2 (a := s) (b := v) (by omega) (by omega), mi2p (a := s) (b := v) (by omega) (by omega), mi2 (a := v) (b := s) (by omega) (by omega), mi2p (a := v) (b := s) (by omega) (by omega), qg]
          try simp (disch := omega) only [if_neg]
          refine zz_b ok rfl trivial rfl (fun h38 => ?_) (fun h38 => ?_)
          · skip
            try simp +decide only [z0, z1436, z1437, z1438, z1647, z1728, z1734, mi1 (n := s) (by omega), mi1p (b := s) (by omega), mi4 (a := s) (by omega), mi4p (a := s) (by omega), mi1 (n := v) (by omega), mi1p (b := v) (by omega), mi4 (a := v) (by omega), mi4p (a := v) (by omega), mi2 (a := s) (b := v) (by omega) (by omega), mi2p (a := s) (b := v) (by omega) (by omega), mi2 (a := v) (b := s) (by omega) (by omega), mi2p (a := v) (b := s) (by omega) (by omega), qg] at h38 ⊢
            try simp (disch := omega) only [if_neg] at h38 ⊢
            simp only [zz_bi0, Bool.not_eq_false] at h38
            refine zz_i ok rfl trivial rfl rfl ?_
            exact zz_pq h (by simp [m_handOver, nsv, zz_ixn (show s < 2147483648 by omega), mi1 (n := s) (by omega), zz_ixn (show v < 2147483648 by omega), mi1 (n := v) (by omega), h4, h11, h16, h26, h38]) (by simp [m_handOver, nsv, zz_ixn (show s < 2147483648 by omega), mi1 (n := s) (by omega), zz_ixn (show v < 2147483648 by omega), mi1 (n := v) (by omega), h4, h11, h16, h26, h38])
          · skip
            try simp +decide only [z0, z1436, z1437, z1438, z1647, z1728, z1734, mi1 (n := s) (by omega), mi1p (b := s) (by omega), mi4 (a := s) (by omega), mi4p (a := s) (by omega), mi1 (n := v) (by omega), mi1p (b := v) (by omega), mi4 (a := v) (by omega), mi4p (a := v) (by omega), mi2 (a := s) (b := v) (by omega) (by omega), mi2p (a := s) (b := v) (by omega) (by omega), mi2 (a := v) (b := s) (by omega) (by omega), mi2p (a := v) (b := s) (by omega) (by omega), qg] at h38 ⊢
            try simp (disch := omega) only [if_neg] at h38 ⊢
            simp only [zz_bi0, Bool.not_eq_false] at h38
            refine zz_cV ok rfl trivial rfl lk_Mo_68 ca_Mo_reaches rfl rfl rfl rfl rfl (sp_Mo_reaches hG rfl hs rfl hv ?_)
            try simp +decide only [z0, z1436, z1437, z1438, z1647, z1728, z1734, mi1 (n := s) (by omega), mi1p (b := s) (by omega), mi4 (a := s) (by omega), mi4p (a := s) (by omega), mi1 (n := v) (by omega), mi1p (b := v) (by omega), mi4 (a := v) (by omega), mi4p (a := v) (by omega), mi2 (a := s) (b := v) (by omega) (by omega), mi2p (a := s) (b := v) (by omega) (by omega), mi2 (a := v) (b := s) (by omega) (by omega), mi2p (a := v) (b := s) (by omega) (by omega), qg]
            try simp (disch := omega) only [if_neg]
            refine zz_b ok rfl trivial rfl (fun h47 => ?_) (fun h47 => ?_)
            · skip
              try simp +decide only [z0, z1436, z1437, z1438, z1647, z1728, z1734, mi1 (n := s) (by omega), mi1p (b := s) (by omega), mi4 (a := s) (by omega), mi4p (a := s) (by omega), mi1 (n := v) (by omega), mi1p (b := v) (by omega), mi4 (a := v) (by omega), mi4p (a := v) (by omega), mi2 (a := s) (b := v) (by omega) (by omega), mi2p (a := s) (b := v) (by omega) (by omega), mi2 (a := v) (b := s) (by omega) (by omega), mi2p (a := v) (b := s) (by omega) (by omega), qg] at h47 ⊢
              try simp (disch := omega) only [if_neg] at h47 ⊢
              simp only [zz_bi0, Bool.not_eq_false] at h47
              refine zz_i ok rfl trivial rfl rfl ?_
              exact zz_pq h (by simp [m_handOver, nsv, zz_ixn (show s < 2147483648 by omega), mi1 (n := s) (by omega), zz_ixn (show v < 2147483648 by omega), mi1 (n := v) (by omega), h4, h11, h16, h26, h38, h47]) (by simp [m_handOver, nsv, zz_ixn (show s < 2147483648 by omega), mi1 (n := s) (by omega), zz_ixn (show v < 2147483648 by omega), mi1 (n := v) (by omega), h4, h11, h16, h26, h38, h47])
            · skip
              try simp +decide only [z0, z1436, z1437, z1438, z1647, z1728, z1734, mi1 (n := s) (by omega), mi1p (b := s) (by omega), mi4 (a := s) (by omega), mi4p (a := s) (by omega), mi1 (n := v) (by omega), mi1p (b := v) (by omega), mi4 (a := v) (by omega), mi4p (a := v) (by omega), mi2 (a := s) (b := v) (by omega) (by omega), mi2p (a := s) (b := v) (by omega) (by omega), mi2 (a := v) (b := s) (by omega) (by omega), mi2p (a := v) (b := s) (by omega) (by omega), qg] at h47 ⊢
              try simp (disch := omega) only [if_neg] at h47 ⊢
              simp only [zz_bi0, Bool.not_eq_false] at h47
              refine zz_b ok rfl (by and_intros <;> first | exact True.intro | with_reducible exact v0 | with_reducible exact v1436 | with_reducible exact v1437 | with_reducible exact v1438 | with_reducible exact v1647 | with_reducible exact v1728 | with_reducible exact v1734 | with_reducible exact vi1 (by omega) (by decide) | with_reducible exact vi2 (by omega) (by decide) | with_reducible exact vi3 (by omega) (by decide) | with_reducible exact vi1p (by omega) (by decide) | with_reducible exact vi2p (by omega) (by decide) | with_reducible exact vi4 (by omega) (by decide) | with_reducible exact vi4p (by omega) (by decide) | with_reducible exact vi5 (by omega) (by decide) | with_reducible exact vi5p (by omega) (by decide) | trivial | exact vi0 (by decide) (by decide)) rfl (fun h68 => ?_) (fun h68 => ?_)
              · skip
                try simp +decide only [z0, z1436, z1437, z1438, z1647, z1728, z1734, mi1 (n := s) (by omega), mi1p (b := s) (by omega), mi4 (a := s) (by omega), mi4p (a := s) (by omega), mi1 (n := v) (by omega), mi1p (b := v) (by omega), mi4 (a := v) (by omega), mi4p (a := v) (by omega), mi2 (a := s) (b := v) (by omega) (by omega), mi2p (a := s) (b := v) (by omega) (by omega), mi2 (a := v) (b := s) (by omega) (by omega), mi2p (a := v) (b := s) (by omega) (by omega), qg] at h68 ⊢
                try simp (disch := omega) only [if_neg] at h68 ⊢
                refine zz_i ok rfl trivial rfl rfl ?_
                exact zz_pq h (by simp [m_handOver, nsv, zz_ixn (show s < 2147483648 by omega), mi1 (n := s) (by omega), zz_ixn (show v < 2147483648 by omega), mi1 (n := v) (by omega), h4, h11, h16, h26, h38, h47, h68]) (by simp [m_handOver, nsv, zz_ixn (show s < 2147483648 by omega), mi1 (n := s) (by omega), zz_ixn (show v < 2147483648 by omega), mi1 (n := v) (by omega), h4, h11, h16, h26, h38, h47, h68])
              · skip
                try simp +decide only [z0, z1436, z1437, z1438, z1647, z1728, z1734, mi1 (n := s) (by omega), mi1p (b := s) (by omega), mi4 (a := s) (by omega), mi4p (a := s) (by omega), mi1 (n := v) (by omega), mi1p (b := v) (by omega), mi4 (a := v) (by omega), mi4p (a := v) (by omega), mi2 (a := s) (b := v) (by omega) (by omega), mi2p (a := s) (b := v) (by omega) (by omega), mi2 (a := v) (b := s) (by omega) (by omega), mi2p (a := v) (b := s) (by omega) (by omega), qg] at h68 ⊢
                try simp (disch := omega) only [if_neg] at h68 ⊢
                refine zz_cV ok rfl (by and_intros <;> first | exact True.intro | with_reducible exact v0 | with_reducible exact v1436 | with_reducible exact v1437 | with_reducible exact v1438 | with_reducible exact v1647 | with_reducible exact v1728 | with_reducible exact v1734 | with_reducible exact vi1 (by omega) (by decide) | with_reducible exact vi2 (by omega) (by decide) | with_reducible exact vi3 (by omega) (by decide) | with_reducible exact vi1p (by omega) (by decide) | with_reducible exact vi2p (by omega) (by decide) | with_reducible exact vi4 (by omega) (by decide) | with_reducible exact vi4p (by omega) (by decide) | with_reducible exact vi5 (by omega) (by decide) | with_reducible exact vi5p (by omega) (by decide) | trivial | exact vi0 (by decide) (by decide)) rfl lk_Mo_94 ca_Mo_copiesLog rfl rfl rfl rfl rfl (sp_Mo_copiesLog hm hG rfl hs rfl hv (fun z => h16 (by rw [z])) ?_)
                try simp +decide only [z0, z1436, z1437, z1438, z1647, z1728, z1734, mi1 (n := s) (by omega), mi1p (b := s) (by omega), mi4 (a := s) (by omega), mi4p (a := s) (by omega), mi1 (n := v) (by omega), mi1p (b := v) (by omega), mi4 (a := v) (by omega), mi4p (a := v) (by omega), mi2 (a := s) (b := v) (by omega) (by omega), mi2p (a := s) (b := v) (by omega) (by omega), mi2 (a := v) (b := s) (by omega) (by omega), mi2p (a := v) (b := s) (by omega) (by omega), qg]
                try simp (disch := omega) only [if_neg]
                refine zz_cV ok rfl trivial rfl lk_Mo_91 ca_Mo_givesUp rfl rfl rfl rfl rfl (sp_Mo_givesUp hG rfl hs ?_)
                try simp +decide only [z0, z1436, z1437, z1438, z1647, z1728, z1734, mi1 (n := s) (by omega), mi1p (b := s) (by omega), mi4 (a := s) (by omega), mi4p (a := s) (by omega), mi1 (n := v) (by omega), mi1p (b := v) (by omega), mi4 (a := v) (by omega), mi4p (a := v) (by omega), mi2 (a := s) (b := v) (by omega) (by omega), mi2p (a := s) (b := v) (by omega) (by omega), mi2 (a := v) (b := s) (by omega) (by omega), mi2p (a := v) (b := s) (by omega) (by omega), qg]
                try simp (disch := omega) only [if_neg]
                refine zz_b ok rfl trivial rfl (fun h108 => ?_) (fun h108 => ?_)
                · skip
                  exact absurd h108 (m_gu_c _ _)
                · skip
                  try simp +decide only [z0, z1436, z1437, z1438, z1647, z1728, z1734, mi1 (n := s) (by omega), mi1p (b := s) (by omega), mi4 (a := s) (by omega), mi4p (a := s) (by omega), mi1 (n := v) (by omega), mi1p (b := v) (by omega), mi4 (a := v) (by omega), mi4p (a := v) (by omega), mi2 (a := s) (b := v) (by omega) (by omega), mi2p (a := s) (b := v) (by omega) (by omega), mi2 (a := v) (b := s) (by omega) (by omega), mi2p (a := v) (b := s) (by omega) (by omega), qg] at h108 ⊢
                  try simp (disch := omega) only [if_neg] at h108 ⊢
                  refine zz_cV ok rfl trivial rfl lk_Mo_84 ca_Mo_acquires rfl rfl rfl rfl rfl (sp_Mo_acquires (m_gu_mw hs (m_cl_mw hs hv (mw_done hm hs).1 (mw_done hm hs).2 hm)) hG rfl hv ?_)
                  try simp +decide only [z0, z1436, z1437, z1438, z1647, z1728, z1734, mi1 (n := s) (by omega), mi1p (b := s) (by omega), mi4 (a := s) (by omega), mi4p (a := s) (by omega), mi1 (n := v) (by omega), mi1p (b := v) (by omega), mi4 (a := v) (by omega), mi4p (a := v) (by omega), mi2 (a := s) (b := v) (by omega) (by omega), mi2p (a := s) (b := v) (by omega) (by omega), mi2 (a := v) (b := s) (by omega) (by omega), mi2p (a := v) (b := s) (by omega) (by omega), qg]
                  try simp (disch := omega) only [if_neg]
                  refine zz_i ok rfl trivial rfl rfl ?_
                  exact zz_pq h (by simp [m_handOver, nsv, zz_ixn (show s < 2147483648 by omega), mi1 (n := s) (by omega), zz_ixn (show v < 2147483648 by omega), mi1 (n := v) (by omega), h4, h11, h16, h26, h38, h47, h68, h108]) (by simp [m_handOver, nsv, zz_ixn (show s < 2147483648 by omega), mi1 (n := s) (by omega), zz_ixn (show v < 2147483648 by omega), mi1 (n := v) (by omega), h4, h11, h16, h26, h38, h47, h68, h108])
theorem sp_Mo_reason {G : zG} {post : Option zV → zM → Prop} {M : zM} {a : Int32} (hG : zz_go G) (h : post (some (.inl (m_reason M a))) M) : zz_T G md_Mo_reason [.inr (.inr (6, 0, 0)), .inl a] M post := by
  refine en_Mo_reason hG rfl (fun Z ok => ?_)
  refine zz_cS ok rfl trivial rfl lk_Mo_54 ca_Mo_isServer rfl rfl rfl (sp_Mo_isServer hG ?_)
  try simp +decide only [z0, z1436, z1437, z1438, z1647, z1728, z1734, mi1 (n := s) (by omega), mi1p (b := s) (by omega), mi4 (a := s) (by omega), mi4p (a := s) (by omega), qg]
  try simp (disch := omega) only [if_neg]
  refine zz_b ok rfl trivial rfl (fun h4 => ?_) (fun h4 => ?_)
  · skip
    try simp +decide only [z0, z1436, z1437, z1438, z1647, z1728, z1734, mi1 (n := s) (by omega), mi1p (b := s) (by omega), mi4 (a := s) (by omega), mi4p (a := s) (by omega), qg] at h4 ⊢
    try simp (disch := omega) only [if_neg] at h4 ⊢
    have h4 := wi_of h4
    refine zz_i ok rfl trivial rfl rfl ?_
    exact zz_pq h (by simp [m_reason, nsv, h4]) rfl
  · skip
    try simp +decide only [z0, z1436, z1437, z1438, z1647, z1728, z1734, mi1 (n := s) (by omega), mi1p (b := s) (by omega), mi4 (a := s) (by omega), mi4p (a := s) (by omega), qg] at h4 ⊢
    try simp (disch := omega) only [if_neg] at h4 ⊢
    have h4 := wi_nof h4
    obtain ⟨s, hs, rfl⟩ := ni_w (N := 4) (by decide) h4.1 h4.2
    refine zz_b ok rfl (by and_intros <;> first | exact True.intro | with_reducible exact v0 | with_reducible exact v1436 | with_reducible exact v1437 | with_reducible exact v1438 | with_reducible exact v1647 | with_reducible exact v1728 | with_reducible exact v1734 | with_reducible exact vi1 (by omega) (by decide) | with_reducible exact vi2 (by omega) (by decide) | with_reducible exact vi3 (by omega) (by decide) | with_reducible exact vi1p (by omega) (by decide) | with_reducible exact vi2p (by omega) (by decide) | with_reducible exact vi4 (by omega) (by decide) | with_reducible exact vi4p (by omega) (by decide) | with_reducible exact vi5 (by omega) (by decide) | with_reducible exact vi5p (by omega) (by decide) | trivial | exact vi0 (by decide) (by decide)) rfl (fun h20 => ?_) (fun h20 => ?_)
    · skip
      try simp +decide only [z0, z1436, z1437, z1438, z1647, z1728, z1734, mi1 (n := s) (by omega), mi1p (b := s) (by omega), mi4 (a := s) (by omega), mi4p (a := s) (by omega), qg] at h20 ⊢
      try simp (disch := omega) only [if_neg] at h20 ⊢
      refine zz_i ok rfl (by and_intros <;> first | exact True.intro | with_reducible exact v0 | with_reducible exact v1436 | with_reducible exact v1437 | with_reducible exact v1438 | with_reducible exact v1647 | with_reducible exact v1728 | with_reducible exact v1734 | with_reducible exact vi1 (by omega) (by decide) | with_reducible exact vi2 (by omega) (by decide) | with_reducible exact vi3 (by omega) (by decide) | with_reducible exact vi1p (by omega) (by decide) | with_reducible exact vi2p (by omega) (by decide) | with_reducible exact vi4 (by omega) (by decide) | with_reducible exact vi4p (by omega) (by decide) | with_reducible exact vi5 (by omega) (by decide) | with_reducible exact vi5p (by omega) (by decide) | trivial | exact vi0 (by decide) (by decide)) rfl rfl ?_
      exact zz_pq h (by simp [m_reason, nsv, zz_ixn (show s < 2147483648 by omega), mi1 (n := s) (by omega), h4, h20]) rfl
    · skip
      try simp +decide only [z0, z1436, z1437, z1438, z1647, z1728, z1734, mi1 (n := s) (by omega), mi1p (b := s) (by omega), mi4 (a := s) (by omega), mi4p (a := s) (by omega), qg] at h20 ⊢
      try simp (disch := omega) only [if_neg] at h20 ⊢
      refine zz_i ok rfl trivial rfl rfl ?_
      exact zz_pq h (by simp [m_reason, nsv, zz_ixn (show s < 2147483648 by omega), mi1 (n := s) (by omega), h4, h20]) rfl
theorem sp_Mo_holds {G : zG} {post : Option zV → zM → Prop} {M : zM} {a : Int32} (hG : zz_go G) (h : post (some (.inl (m_holds M a))) M) : zz_T G md_Mo_holds [.inr (.inr (6, 0, 0)), .inl a] M post := by
  refine en_Mo_holds hG rfl (fun Z ok => ?_)
  refine zz_cS ok rfl trivial rfl lk_Mo_54 ca_Mo_isServer rfl rfl rfl (sp_Mo_isServer hG ?_)
  try simp +decide only [mi0, mi1 (n := s) (by omega)]
  refine zz_b ok rfl trivial rfl (fun h4 => ?_) (fun h4 => ?_)
  · skip
    try simp +decide only [mi0, mi1 (n := s) (by omega)] at h4 ⊢
    have h4 := wi_of h4
    refine zz_i ok rfl trivial rfl rfl ?_
    exact zz_pq h (by simp [m_holds, nsv, h4]) rfl
  · skip
    try simp +decide only [mi0, mi1 (n := s) (by omega)] at h4 ⊢
    have h4 := wi_nof h4
    obtain ⟨s, hs, rfl⟩ := ni_w (N := 4) (by decide) h4.1 h4.2
    refine zz_cV ok rfl trivial rfl lk_Mo_81 ca_Mo_hasIt rfl rfl rfl rfl rfl (sp_Mo_hasIt hG rfl hs ?_)
    try simp +decide only [mi0, mi1 (n := s) (by omega)]
    refine zz_b ok rfl trivial rfl (fun h16 => ?_) (fun h16 => ?_)
    · skip
      try simp +decide only [mi0, mi1 (n := s) (by omega)] at h16 ⊢
      simp only [zz_bi0, Bool.not_eq_false] at h16
      refine zz_i ok rfl trivial rfl rfl ?_
      exact zz_pq h (by simp [m_holds, nsv, zz_ixn (show s < 2147483648 by omega), mi1 (n := s) (by omega), h4, h16]) rfl
    · skip
      try simp +decide only [mi0, mi1 (n := s) (by omega)] at h16 ⊢
      simp only [zz_bi0, Bool.not_eq_false] at h16
      refine zz_i ok rfl trivial rfl rfl ?_
      exact zz_pq h (by simp [m_holds, nsv, zz_ixn (show s < 2147483648 by omega), mi1 (n := s) (by omega), h4, h16]) rfl
theorem sp_Mo_known {G : zG} {post : Option zV → zM → Prop} {M : zM} {a w : Int32} (hG : zz_go G) (h : post (some (.inl (m_known M a w))) M) : zz_T G md_Mo_known [.inr (.inr (6, 0, 0)), .inl a, .inl w] M post := by
  refine en_Mo_known hG rfl (fun Z ok => ?_)
  refine zz_cS ok rfl trivial rfl lk_Mo_54 ca_Mo_isServer rfl rfl rfl (sp_Mo_isServer hG ?_)
  try simp +decide only [z0, z1436, z1437, z1438, z1647, z1728, z1734, mi1 (n := s) (by omega), mi1p (b := s) (by omega), mi4 (a := s) (by omega), mi4p (a := s) (by omega), qg]
  try simp (disch := omega) only [if_neg]
  refine zz_b ok rfl trivial rfl (fun h4 => ?_) (fun h4 => ?_)
  · skip
    try simp +decide only [z0, z1436, z1437, z1438, z1647, z1728, z1734, mi1 (n := s) (by omega), mi1p (b := s) (by omega), mi4 (a := s) (by omega), mi4p (a := s) (by omega), qg] at h4 ⊢
    try simp (disch := omega) only [if_neg] at h4 ⊢
    have h4 := wi_of h4
    refine zz_i ok rfl trivial rfl rfl ?_
    exact zz_pq h (by simp [m_known, nsv, h4]) rfl
  · skip
    try simp +decide only [z0, z1436, z1437, z1438, z1647, z1728, z1734, mi1 (n := s) (by omega), mi1p (b := s) (by omega), mi4 (a := s) (by omega), mi4p (a := s) (by omega), qg] at h4 ⊢
    try simp (disch := omega) only [if_neg] at h4 ⊢
    have h4 := wi_nof h4
    obtain ⟨s, hs, rfl⟩ := ni_w (N := 4) (by decide) h4.1 h4.2
    refine zz_g ok rfl trivial ?_
    refine zz_tsw ok sw_Mo_known_12 [(0, 48), (1, 58), (2, 68), (3, 99), (4, 127)] 155 (by decide +kernel) ?_
    refine ⟨fun h12_0 => ?_, fun h12_0 => ?_⟩
    · skip
      refine zz_i ok rfl (by and_intros <;> first | exact True.intro | with_reducible exact v0 | with_reducible exact v1436 | with_reducible exact v1437 | with_reducible exact v1438 | with_reducible exact v1647 | with_reducible exact v1728 | with_reducible exact v1734 | with_reducible exact vi1 (by omega) (by decide) | with_reducible exact vi2 (by omega) (by decide) | with_reducible exact vi3 (by omega) (by decide) | with_reducible exact vi1p (by omega) (by decide) | with_reducible exact vi2p (by omega) (by decide) | with_reducible exact vi4 (by omega) (by decide) | with_reducible exact vi4p (by omega) (by decide) | with_reducible exact vi5 (by omega) (by decide) | with_reducible exact vi5p (by omega) (by decide) | trivial | exact vi0 (by decide) (by decide)) rfl rfl ?_
      exact zz_pq h (by simp [m_known, nsv, zz_ixn (show s < 2147483648 by omega), mi1 (n := s) (by omega), h4, h12_0]) rfl
    refine ⟨fun h12_1 => ?_, fun h12_1 => ?_⟩
    · skip
      refine zz_i ok rfl (by and_intros <;> first | exact True.intro | with_reducible exact v0 | with_reducible exact v1436 | with_reducible exact v1437 | with_reducible exact v1438 | with_reducible exact v1647 | with_reducible exact v1728 | with_reducible exact v1734 | with_reducible exact vi1 (by omega) (by decide) | with_reducible exact vi2 (by omega) (by decide) | with_reducible exact vi3 (by omega) (by decide) | with_reducible exact vi1p (by omega) (by decide) | with_reducible exact vi2p (by omega) (by decide) | with_reducible exact vi4 (by omega) (by decide) | with_reducible exact vi4p (by omega) (by decide) | with_reducible exact vi5 (by omega) (by decide) | with_reducible exact vi5p (by omega) (by decide) | trivial | exact vi0 (by decide) (by decide)) rfl rfl ?_
      exact zz_pq h (by simp [m_known, nsv, zz_ixn (show s < 2147483648 by omega), mi1 (n := s) (by omega), h4, h12_0, h12_1]) rfl
    refine ⟨fun h12_2 => ?_, fun h12_2 => ?_⟩
    · skip
      refine zz_b ok rfl (by and_intros <;> first | exact True.intro | with_reducible exact v0 | with_reducible exact v1436 | with_reducible exact v1437 | with_reducible exact v1438 | with_reducible exact v1647 | with_reducible exact v1728 | with_reducible exact v1734 | with_reducible exact vi1 (by omega) (by decide) | with_reducible exact vi2 (by omega) (by decide) | with_reducible exact vi3 (by omega) (by decide) | with_reducible exact vi1p (by omega) (by decide) | with_reducible exact vi2p (by omega) (by decide) | with_reducible exact vi4 (by omega) (by decide) | with_reducible exact vi4p (by omega) (by decide) | with_reducible exact vi5 (by omega) (by decide) | with_reducible exact vi5p (by omega) (by decide) | trivial | exact vi0 (by decide) (by decide)) rfl (fun h80 => ?_) (fun h80 => ?_)
      · skip
        try simp +decide only [z0, z1436, z1437, z1438, z1647, z1728, z1734, mi1 (n := s) (by omega), mi1p (b := s) (by omega), mi4 (a := s) (by omega), mi4p (a := s) (by omega), qg] at h80 ⊢
        try simp (disch := omega) only [if_neg] at h80 ⊢
        refine zz_i ok rfl trivial rfl rfl ?_
        exact zz_pq h (by simp [m_known, nsv, zz_ixn (show s < 2147483648 by omega), mi1 (n := s) (by omega), h4, h12_0, h12_1, h12_2, h80]) rfl
      · skip
        try simp +decide only [z0, z1436, z1437, z1438, z1647, z1728, z1734, mi1 (n := s) (by omega), mi1p (b := s) (by omega), mi4 (a := s) (by omega), mi4p (a := s) (by omega), qg] at h80 ⊢
        try simp (disch := omega) only [if_neg] at h80 ⊢
        refine zz_i ok rfl (by and_intros <;> first | exact True.intro | with_reducible exact v0 | with_reducible exact v1436 | with_reducible exact v1437 | with_reducible exact v1438 | with_reducible exact v1647 | with_reducible exact v1728 | with_reducible exact v1734 | with_reducible exact vi1 (by omega) (by decide) | with_reducible exact vi2 (by omega) (by decide) | with_reducible exact vi3 (by omega) (by decide) | with_reducible exact vi1p (by omega) (by decide) | with_reducible exact vi2p (by omega) (by decide) | with_reducible exact vi4 (by omega) (by decide) | with_reducible exact vi4p (by omega) (by decide) | with_reducible exact vi5 (by omega) (by decide) | with_reducible exact vi5p (by omega) (by decide) | trivial | exact vi0 (by decide) (by decide)) rfl rfl ?_
        exact zz_pq h (by simp [m_known, nsv, zz_ixn (show s < 2147483648 by omega), mi1 (n := s) (by omega), h4, h12_0, h12_1, h12_2, h80]) rfl
    refine ⟨fun h12_3 => ?_, fun h12_3 => ?_⟩
    · skip
      refine zz_b ok rfl (by and_intros <;> first | exact True.intro | with_reducible exact v0 | with_reducible exact v1436 | with_reducible exact v1437 | with_reducible exact v1438 | with_reducible exact v1647 | with_reducible exact v1728 | with_reducible exact v1734 | with_reducible exact vi1 (by omega) (by decide) | with_reducible exact vi2 (by omega) (by decide) | with_reducible exact vi3 (by omega) (by decide) | with_reducible exact vi1p (by omega) (by decide) | with_reducible exact vi2p (by omega) (by decide) | with_reducible exact vi4 (by omega) (by decide) | with_reducible exact vi4p (by omega) (by decide) | with_reducible exact vi5 (by omega) (by decide) | with_reducible exact vi5p (by omega) (by decide) | trivial | exact vi0 (by decide) (by decide)) rfl (fun h108 => ?_) (fun h108 => ?_)
      · skip
        try simp +decide only [z0, z1436, z1437, z1438, z1647, z1728, z1734, mi1 (n := s) (by omega), mi1p (b := s) (by omega), mi4 (a := s) (by omega), mi4p (a := s) (by omega), qg] at h108 ⊢
        try simp (disch := omega) only [if_neg] at h108 ⊢
        refine zz_i ok rfl trivial rfl rfl ?_
        exact zz_pq h (by simp [m_known, nsv, zz_ixn (show s < 2147483648 by omega), mi1 (n := s) (by omega), h4, h12_0, h12_1, h12_2, h12_3, h108]) rfl
      · skip
        try simp +decide only [z0, z1436, z1437, z1438, z1647, z1728, z1734, mi1 (n := s) (by omega), mi1p (b := s) (by omega), mi4 (a := s) (by omega), mi4p (a := s) (by omega), qg] at h108 ⊢
        try simp (disch := omega) only [if_neg] at h108 ⊢
        refine zz_i ok rfl (by and_intros <;> first | exact True.intro | with_reducible exact v0 | with_reducible exact v1436 | with_reducible exact v1437 | with_reducible exact v1438 | with_reducible exact v1647 | with_reducible exact v1728 | with_reducible exact v1734 | with_reducible exact vi1 (by omega) (by decide) | with_reducible exact vi2 (by omega) (by decide) | with_reducible exact vi3 (by omega) (by decide) | with_reducible exact vi1p (by omega) (by decide) | with_reducible exact vi2p (by omega) (by decide) | with_reducible exact vi4 (by omega) (by decide) | with_reducible exact vi4p (by omega) (by decide) | with_reducible exact vi5 (by omega) (by decide) | with_reducible exact vi5p (by omega) (by decide) | trivial | exact vi0 (by decide) (by decide)) rfl rfl ?_
        exact zz_pq h (by simp [m_known, nsv, zz_ixn (show s < 2147483648 by omega), mi1 (n := s) (by omega), h4, h12_0, h12_1, h12_2, h12_3, h108]) rfl
    refine ⟨fun h12_4 => ?_, fun h12_4 => ?_⟩
    · skip
      refine zz_b ok rfl (by and_intros <;> first | exact True.intro | with_reducible exact v0 | with_reducible exact v1436 | with_reducible exact v1437 | with_reducible exact v1438 | with_reducible exact v1647 | with_reducible exact v1728 | with_reducible exact v1734 | with_reducible exact vi1 (by omega) (by decide) | with_reducible exact vi2 (by omega) (by decide) | with_reducible exact vi3 (by omega) (by decide) | with_reducible exact vi1p (by omega) (by decide) | with_reducible exact vi2p (by omega) (by decide) | with_reducible exact vi4 (by omega) (by decide) | with_reducible exact vi4p (by omega) (by decide) | with_reducible exact vi5 (by omega) (by decide) | with_reducible exact vi5p (by omega) (by decide) | trivial | exact vi0 (by decide) (by decide)) rfl (fun h136 => ?_) (fun h136 => ?_)
      · skip
        try simp +decide only [z0, z1436, z1437, z1438, z1647, z1728, z1734, mi1 (n := s) (by omega), mi1p (b := s) (by omega), mi4 (a := s) (by omega), mi4p (a := s) (by omega), qg] at h136 ⊢
        try simp (disch := omega) only [if_neg] at h136 ⊢
        refine zz_i ok rfl trivial rfl rfl ?_
        exact zz_pq h (by simp [m_known, nsv, zz_ixn (show s < 2147483648 by omega), mi1 (n := s) (by omega), h4, h12_0, h12_1, h12_2, h12_3, h12_4, h136]) rfl
      · skip
        try simp +decide only [z0, z1436, z1437, z1438, z1647, z1728, z1734, mi1 (n := s) (by omega), mi1p (b := s) (by omega), mi4 (a := s) (by omega), mi4p (a := s) (by omega), qg] at h136 ⊢
        try simp (disch := omega) only [if_neg] at h136 ⊢
        refine zz_i ok rfl (by and_intros <;> first | exact True.intro | with_reducible exact v0 | with_reducible exact v1436 | with_reducible exact v1437 | with_reducible exact v1438 | with_reducible exact v1647 | with_reducible exact v1728 | with_reducible exact v1734 | with_reducible exact vi1 (by omega) (by decide) | with_reducible exact vi2 (by omega) (by decide) | with_reducible exact vi3 (by omega) (by decide) | with_reducible exact vi1p (by omega) (by decide) | with_reducible exact vi2p (by omega) (by decide) | with_reducible exact vi4 (by omega) (by decide) | with_reducible exact vi4p (by omega) (by decide) | with_reducible exact vi5 (by omega) (by decide) | with_reducible exact vi5p (by omega) (by decide) | trivial | exact vi0 (by decide) (by decide)) rfl rfl ?_
        exact zz_pq h (by simp [m_known, nsv, zz_ixn (show s < 2147483648 by omega), mi1 (n := s) (by omega), h4, h12_0, h12_1, h12_2, h12_3, h12_4, h136]) rfl
    refine zz_i ok rfl trivial rfl rfl ?_
    exact zz_pq h (by simp [m_known, nsv, zz_ixn (show s < 2147483648 by omega), mi1 (n := s) (by omega), h4, h12_0, h12_1, h12_2, h12_3, h12_4]) rfl
theorem sp_Mo_lastValue {G : zG} {post : Option zV → zM → Prop} {M : zM} {s n : Nat} {a c key time : Int32} (hG : zz_go G) (ea : a = nI s) (hs : s < 5) (ec : c = nI n) (hn : n ≤ 40) (h : post (some (.inl (m_lv M s key time n))) M) : zz_T G md_Mo_lastValue [.inr (.inr (6, 0, 0)), .inl a, .inl c, .inl key, .inl time] M post := by
  refine en_Mo_lastValue hG rfl (fun Z ok => ?_)
  subst ea; subst ec
  have lp8 : ∀ (f k : Nat), n - k < f → k ≤ n → ∀ (x6 x5 : Int32), x6 = nI k → x5 = m_lv M s key time k → zz_W G Z md_Mo_lastValue post 8 [(6, .inl x6), (5, .inl x5), (4, .inl time), (3, .inl key), (2, .inl (nI n)), (1, .inl (nI s)), (0, .inr (.inr (6, 0, 0)))] [] M := by
    intro f
    induction f with
    | zero => intro k hf; exact absurd hf (Nat.not_lt_zero _)
    | succ f ih => ?_
    intro k hf hk x6 x5 e6 e5
    subst e6; subst e5
    refine zz_b ok rfl trivial rfl (fun h11 => ?_) (fun h11 => ?_)
    · skip
      rw [ni_ltn (by omega) (by omega)] at h11
      refine zz_cV ok rfl trivial rfl lk_Mo_47 ca_Mo_part rfl rfl rfl rfl rfl (sp_Mo_part (i := k) (w := 1) hG rfl hs rfl (by omega) rfl (by decide) ?_)
      refine zz_b ok rfl trivial rfl (fun h23 => ?_) (fun h23 => ?_)
      · skip
        refine zz_cV ok rfl trivial rfl lk_Mo_47 ca_Mo_part rfl rfl rfl rfl rfl (sp_Mo_part (i := k) (w := 3) hG rfl hs rfl (by omega) rfl (by decide) ?_)
        refine zz_b ok rfl trivial rfl (fun h36 => ?_) (fun h36 => ?_)
        · skip
          refine zz_g ok rfl trivial ?_
          refine zz_pm [6, 5, 4, 3, 2, 1, 0] rfl ?_
          exact ih (k + 1) (by omega) (by omega) _ _ (nI_1 k) (by rw [m_lv, if_neg (fun z => z.2 h36)])
        · skip
          refine zz_cV ok rfl trivial rfl lk_Mo_47 ca_Mo_part rfl rfl rfl rfl rfl (sp_Mo_part (i := k) (w := 2) hG rfl hs rfl (by omega) rfl (by decide) ?_)
          refine zz_g ok rfl trivial ?_
          refine zz_pm [6, 5, 4, 3, 2, 1, 0] rfl ?_
          exact ih (k + 1) (by omega) (by omega) _ _ (nI_1 k) (by rw [m_lv, if_pos ⟨h23, h36⟩])
      · skip
        refine zz_g ok rfl trivial ?_
        refine zz_pm [6, 5, 4, 3, 2, 1, 0] rfl ?_
        exact ih (k + 1) (by omega) (by omega) _ _ (nI_1 k) (by rw [m_lv, if_neg (fun z => h23 z.1)])
    · skip
      rw [ni_ltn (by omega) (by omega)] at h11
      have hkn : k = n := by omega
      subst hkn
      refine zz_i ok rfl trivial rfl rfl ?_
      exact h
  refine zz_g ok rfl trivial ?_
  refine zz_pm [6, 5, 4, 3, 2, 1, 0] rfl ?_
  exact lp8 (n + 1) 0 (by omega) (by omega) _ _ rfl rfl
theorem sp_Mo_read {G : zG} {post : Option zV → zM → Prop} {M : zM} {a k : Int32} (hm : mw M) (hG : zz_go G) (h : post (some (.inl (m_read M a k))) M) : zz_T G md_Mo_read [.inr (.inr (6, 0, 0)), .inl a, .inl k] M post := by
  refine en_Mo_read hG rfl (fun Z ok => ?_)
  refine zz_cS ok rfl trivial rfl lk_Mo_54 ca_Mo_isServer rfl rfl rfl (sp_Mo_isServer hG ?_)
  try simp +decide only [z0, z1436, z1437, z1438, z1647, z1728, z1734, mi1 (n := s) (by omega), mi1p (b := s) (by omega), mi4 (a := s) (by omega), mi4p (a := s) (by omega), qg]
  try simp (disch := omega) only [if_neg]
  refine zz_b ok rfl trivial rfl (fun h4 => ?_) (fun h4 => ?_)
  · skip
    try simp +decide only [z0, z1436, z1437, z1438, z1647, z1728, z1734, mi1 (n := s) (by omega), mi1p (b := s) (by omega), mi4 (a := s) (by omega), mi4p (a := s) (by omega), qg] at h4 ⊢
    try simp (disch := omega) only [if_neg] at h4 ⊢
    have h4 := wi_of h4
    refine zz_i ok rfl trivial rfl rfl ?_
    exact zz_pq h (by simp [m_read, nsv, h4]) rfl
  · skip
    try simp +decide only [z0, z1436, z1437, z1438, z1647, z1728, z1734, mi1 (n := s) (by omega), mi1p (b := s) (by omega), mi4 (a := s) (by omega), mi4p (a := s) (by omega), qg] at h4 ⊢
    try simp (disch := omega) only [if_neg] at h4 ⊢
    have h4 := wi_nof h4
    obtain ⟨s, hs, rfl⟩ := ni_w (N := 4) (by decide) h4.1 h4.2
    refine zz_cS ok rfl trivial rfl lk_Mo_32 ca_Mo_in rfl rfl rfl (sp_Mo_in hG ?_)
    try simp +decide only [z0, z1436, z1437, z1438, z1647, z1728, z1734, mi1 (n := s) (by omega), mi1p (b := s) (by omega), mi4 (a := s) (by omega), mi4p (a := s) (by omega), qg]
    try simp (disch := omega) only [if_neg]
    refine zz_b ok rfl trivial rfl (fun h14 => ?_) (fun h14 => ?_)
    · skip
      try simp +decide only [z0, z1436, z1437, z1438, z1647, z1728, z1734, mi1 (n := s) (by omega), mi1p (b := s) (by omega), mi4 (a := s) (by omega), mi4p (a := s) (by omega), qg] at h14 ⊢
      try simp (disch := omega) only [if_neg] at h14 ⊢
      have h14 := wi_of h14
      refine zz_i ok rfl trivial rfl rfl ?_
      exact zz_pq h (by simp [m_read, nsv, zz_ixn (show s < 2147483648 by omega), mi1 (n := s) (by omega), h4, h14]) rfl
    · skip
      try simp +decide only [z0, z1436, z1437, z1438, z1647, z1728, z1734, mi1 (n := s) (by omega), mi1p (b := s) (by omega), mi4 (a := s) (by omega), mi4p (a := s) (by omega), qg] at h14 ⊢
      try simp (disch := omega) only [if_neg] at h14 ⊢
      have h14 := wi_nof h14
      refine zz_cV ok rfl (by and_intros <;> first | exact True.intro | with_reducible exact v0 | with_reducible exact v1436 | with_reducible exact v1437 | with_reducible exact v1438 | with_reducible exact v1647 | with_reducible exact v1728 | with_reducible exact v1734 | with_reducible exact vi1 (by omega) (by decide) | with_reducible exact vi2 (by omega) (by decide) | with_reducible exact vi3 (by omega) (by decide) | with_reducible exact vi1p (by omega) (by decide) | with_reducible exact vi2p (by omega) (by decide) | with_reducible exact vi4 (by omega) (by decide) | with_reducible exact vi4p (by omega) (by decide) | with_reducible exact vi5 (by omega) (by decide) | with_reducible exact vi5p (by omega) (by decide) | trivial | exact vi0 (by decide) (by decide)) rfl lk_Mo_81 ca_Mo_hasIt rfl rfl rfl rfl rfl (sp_Mo_hasIt hG rfl hs ?_)
      try simp +decide only [z0, z1436, z1437, z1438, z1647, z1728, z1734, mi1 (n := s) (by omega), mi1p (b := s) (by omega), mi4 (a := s) (by omega), mi4p (a := s) (by omega), qg]
      try simp (disch := omega) only [if_neg]
      refine zz_b ok rfl trivial rfl (fun h36 => ?_) (fun h36 => ?_)
      · skip
        try simp +decide only [z0, z1436, z1437, z1438, z1647, z1728, z1734, mi1 (n := s) (by omega), mi1p (b := s) (by omega), mi4 (a := s) (by omega), mi4p (a := s) (by omega), qg] at h36 ⊢
        try simp (disch := omega) only [if_neg] at h36 ⊢
        simp only [zz_bi0, Bool.not_eq_false] at h36
        refine zz_i ok rfl trivial rfl rfl ?_
        exact zz_pq h (by simp [m_read, nsv, zz_ixn (show s < 2147483648 by omega), mi1 (n := s) (by omega), h4, h14, h36]) rfl
      · skip
        try simp +decide only [z0, z1436, z1437, z1438, z1647, z1728, z1734, mi1 (n := s) (by omega), mi1p (b := s) (by omega), mi4 (a := s) (by omega), mi4p (a := s) (by omega), qg] at h36 ⊢
        try simp (disch := omega) only [if_neg] at h36 ⊢
        simp only [zz_bi0, Bool.not_eq_false] at h36
        refine zz_b ok rfl trivial rfl (fun h40 => ?_) (fun h40 => ?_)
        · skip
          try simp +decide only [z0, z1436, z1437, z1438, z1647, z1728, z1734, mi1 (n := s) (by omega), mi1p (b := s) (by omega), mi4 (a := s) (by omega), mi4p (a := s) (by omega), qg] at h40 ⊢
          try simp (disch := omega) only [if_neg] at h40 ⊢
          refine zz_i ok rfl trivial rfl rfl ?_
          exact zz_pq h (by simp [m_read, nsv, zz_ixn (show s < 2147483648 by omega), mi1 (n := s) (by omega), h4, h14, h36, h40]) rfl
        · skip
          try simp +decide only [z0, z1436, z1437, z1438, z1647, z1728, z1734, mi1 (n := s) (by omega), mi1p (b := s) (by omega), mi4 (a := s) (by omega), mi4p (a := s) (by omega), qg] at h40 ⊢
          try simp (disch := omega) only [if_neg] at h40 ⊢
          have hn := mw_done hm hs
          have hn0 : ¬ mn M (56 + s) = 0 := by
            intro z; rw [z] at hn; exact h40 hn.1
          refine zz_cV ok rfl trivial rfl lk_Mo_47 ca_Mo_part rfl rfl rfl rfl rfl (sp_Mo_part (i := mn M (56 + s) - 1) (w := 0) hG rfl hs (by rw [hn.1, ni_lit, ni_subn (by omega)]) (by omega) rfl (by decide) ?_)
          try simp +decide only [z0, z1436, z1437, z1438, z1647, z1728, z1734, mi1 (n := s) (by omega), mi1p (b := s) (by omega), mi4 (a := s) (by omega), mi4p (a := s) (by omega), qg]
          try simp (disch := omega) only [if_neg]
          refine zz_b ok rfl (by and_intros <;> first | exact True.intro | with_reducible exact v0 | with_reducible exact v1436 | with_reducible exact v1437 | with_reducible exact v1438 | with_reducible exact v1647 | with_reducible exact v1728 | with_reducible exact v1734 | with_reducible exact vi1 (by omega) (by decide) | with_reducible exact vi2 (by omega) (by decide) | with_reducible exact vi3 (by omega) (by decide) | with_reducible exact vi1p (by omega) (by decide) | with_reducible exact vi2p (by omega) (by decide) | with_reducible exact vi4 (by omega) (by decide) | with_reducible exact vi4p (by omega) (by decide) | with_reducible exact vi5 (by omega) (by decide) | with_reducible exact vi5p (by omega) (by decide) | trivial | exact vi0 (by decide) (by decide)) rfl (fun h61 => ?_) (fun h61 => ?_)
          · skip
            try simp +decide only [z0, z1436, z1437, z1438, z1647, z1728, z1734, mi1 (n := s) (by omega), mi1p (b := s) (by omega), mi4 (a := s) (by omega), mi4p (a := s) (by omega), qg] at h61 ⊢
            try simp (disch := omega) only [if_neg] at h61 ⊢
            refine zz_cV ok rfl trivial rfl lk_Mo_106 ca_Mo_lastValue rfl rfl rfl rfl rfl (sp_Mo_lastValue (n := mn M (56 + s)) hG rfl hs hn.1 hn.2 ?_)
            try simp +decide only [z0, z1436, z1437, z1438, z1647, z1728, z1734, mi1 (n := s) (by omega), mi1p (b := s) (by omega), mi4 (a := s) (by omega), mi4p (a := s) (by omega), qg]
            try simp (disch := omega) only [if_neg]
            refine zz_i ok rfl trivial rfl rfl ?_
            exact zz_pq h (by simp [m_read, nsv, zz_ixn (show s < 2147483648 by omega), mi1 (n := s) (by omega), h4, h14, h36, h40, h61]) rfl
          · skip
            try simp +decide only [z0, z1436, z1437, z1438, z1647, z1728, z1734, mi1 (n := s) (by omega), mi1p (b := s) (by omega), mi4 (a := s) (by omega), mi4p (a := s) (by omega), qg] at h61 ⊢
            try simp (disch := omega) only [if_neg] at h61 ⊢
            refine zz_i ok rfl trivial rfl rfl ?_
            exact zz_pq h (by simp [m_read, nsv, zz_ixn (show s < 2147483648 by omega), mi1 (n := s) (by omega), h4, h14, h36, h40, h61]) rfl
theorem sp_Mo_readAt {G : zG} {post : Option zV → zM → Prop} {M : zM} {a k t : Int32} (hm : mw M) (hG : zz_go G) (h : post (some (.inl (m_readAt M a k t))) M) : zz_T G md_Mo_readAt [.inr (.inr (6, 0, 0)), .inl a, .inl k, .inl t] M post := by
  refine en_Mo_readAt hG rfl (fun Z ok => ?_)
  refine zz_cS ok rfl trivial rfl lk_Mo_54 ca_Mo_isServer rfl rfl rfl (sp_Mo_isServer hG ?_)
  try simp +decide only [z0, z1436, z1437, z1438, z1647, z1728, z1734, mi1 (n := s) (by omega), mi1p (b := s) (by omega), mi4 (a := s) (by omega), mi4p (a := s) (by omega), qg]
  try simp (disch := omega) only [if_neg]
  refine zz_b ok rfl trivial rfl (fun h4 => ?_) (fun h4 => ?_)
  · skip
    try simp +decide only [z0, z1436, z1437, z1438, z1647, z1728, z1734, mi1 (n := s) (by omega), mi1p (b := s) (by omega), mi4 (a := s) (by omega), mi4p (a := s) (by omega), qg] at h4 ⊢
    try simp (disch := omega) only [if_neg] at h4 ⊢
    have h4 := wi_of h4
    refine zz_i ok rfl trivial rfl rfl ?_
    exact zz_pq h (by simp [m_readAt, nsv, h4]) rfl
  · skip
    try simp +decide only [z0, z1436, z1437, z1438, z1647, z1728, z1734, mi1 (n := s) (by omega), mi1p (b := s) (by omega), mi4 (a := s) (by omega), mi4p (a := s) (by omega), qg] at h4 ⊢
    try simp (disch := omega) only [if_neg] at h4 ⊢
    have h4 := wi_nof h4
    obtain ⟨s, hs, rfl⟩ := ni_w (N := 4) (by decide) h4.1 h4.2
    refine zz_cS ok rfl trivial rfl lk_Mo_32 ca_Mo_in rfl rfl rfl (sp_Mo_in hG ?_)
    try simp +decide only [z0, z1436, z1437, z1438, z1647, z1728, z1734, mi1 (n := s) (by omega), mi1p (b := s) (by omega), mi4 (a := s) (by omega), mi4p (a := s) (by omega), qg]
    try simp (disch := omega) only [if_neg]
    refine zz_b ok rfl trivial rfl (fun h14 => ?_) (fun h14 => ?_)
    · skip
      try simp +decide only [z0, z1436, z1437, z1438, z1647, z1728, z1734, mi1 (n := s) (by omega), mi1p (b := s) (by omega), mi4 (a := s) (by omega), mi4p (a := s) (by omega), qg] at h14 ⊢
      try simp (disch := omega) only [if_neg] at h14 ⊢
      have h14 := wi_of h14
      refine zz_i ok rfl trivial rfl rfl ?_
      exact zz_pq h (by simp [m_readAt, nsv, zz_ixn (show s < 2147483648 by omega), mi1 (n := s) (by omega), h4, h14]) rfl
    · skip
      try simp +decide only [z0, z1436, z1437, z1438, z1647, z1728, z1734, mi1 (n := s) (by omega), mi1p (b := s) (by omega), mi4 (a := s) (by omega), mi4p (a := s) (by omega), qg] at h14 ⊢
      try simp (disch := omega) only [if_neg] at h14 ⊢
      have h14 := wi_nof h14
      refine zz_b ok rfl trivial rfl (fun h18 => ?_) (fun h18 => ?_)
      · skip
        try simp +decide only [z0, z1436, z1437, z1438, z1647, z1728, z1734, mi1 (n := s) (by omega), mi1p (b := s) (by omega), mi4 (a := s) (by omega), mi4p (a := s) (by omega), qg] at h18 ⊢
        try simp (disch := omega) only [if_neg] at h18 ⊢
        refine zz_i ok rfl trivial rfl rfl ?_
        exact zz_pq h (by simp [m_readAt, nsv, zz_ixn (show s < 2147483648 by omega), mi1 (n := s) (by omega), h4, h14, h18]) rfl
      · skip
        try simp +decide only [z0, z1436, z1437, z1438, z1647, z1728, z1734, mi1 (n := s) (by omega), mi1p (b := s) (by omega), mi4 (a := s) (by omega), mi4p (a := s) (by omega), qg] at h18 ⊢
        try simp (disch := omega) only [if_neg] at h18 ⊢
        refine zz_cV ok rfl (by and_intros <;> first | exact True.intro | with_reducible exact v0 | with_reducible exact v1436 | with_reducible exact v1437 | with_reducible exact v1438 | with_reducible exact v1647 | with_reducible exact v1728 | with_reducible exact v1734 | with_reducible exact vi1 (by omega) (by decide) | with_reducible exact vi2 (by omega) (by decide) | with_reducible exact vi3 (by omega) (by decide) | with_reducible exact vi1p (by omega) (by decide) | with_reducible exact vi2p (by omega) (by decide) | with_reducible exact vi4 (by omega) (by decide) | with_reducible exact vi4p (by omega) (by decide) | with_reducible exact vi5 (by omega) (by decide) | with_reducible exact vi5p (by omega) (by decide) | trivial | exact vi0 (by decide) (by decide)) rfl lk_Mo_40 ca_Mo_runs rfl rfl rfl rfl rfl (sp_Mo_runs hG rfl hs ?_)
        try simp +decide only [z0, z1436, z1437, z1438, z1647, z1728, z1734, mi1 (n := s) (by omega), mi1p (b := s) (by omega), mi4 (a := s) (by omega), mi4p (a := s) (by omega), qg]
        try simp (disch := omega) only [if_neg]
        refine zz_b ok rfl trivial rfl (fun h41 => ?_) (fun h41 => ?_)
        · skip
          try simp +decide only [z0, z1436, z1437, z1438, z1647, z1728, z1734, mi1 (n := s) (by omega), mi1p (b := s) (by omega), mi4 (a := s) (by omega), mi4p (a := s) (by omega), qg] at h41 ⊢
          try simp (disch := omega) only [if_neg] at h41 ⊢
          simp only [zz_bi0, Bool.not_eq_false] at h41
          refine zz_i ok rfl trivial rfl rfl ?_
          exact zz_pq h (by simp [m_readAt, nsv, zz_ixn (show s < 2147483648 by omega), mi1 (n := s) (by omega), h4, h14, h18, h41]) rfl
        · skip
          try simp +decide only [z0, z1436, z1437, z1438, z1647, z1728, z1734, mi1 (n := s) (by omega), mi1p (b := s) (by omega), mi4 (a := s) (by omega), mi4p (a := s) (by omega), qg] at h41 ⊢
          try simp (disch := omega) only [if_neg] at h41 ⊢
          simp only [zz_bi0, Bool.not_eq_false] at h41
          refine zz_b ok rfl trivial rfl (fun h46 => ?_) (fun h46 => ?_)
          · skip
            try simp +decide only [z0, z1436, z1437, z1438, z1647, z1728, z1734, mi1 (n := s) (by omega), mi1p (b := s) (by omega), mi4 (a := s) (by omega), mi4p (a := s) (by omega), qg] at h46 ⊢
            try simp (disch := omega) only [if_neg] at h46 ⊢
            refine zz_i ok rfl trivial rfl rfl ?_
            exact zz_pq h (by simp [m_readAt, nsv, zz_ixn (show s < 2147483648 by omega), mi1 (n := s) (by omega), h4, h14, h18, h41, h46]) rfl
          · skip
            try simp +decide only [z0, z1436, z1437, z1438, z1647, z1728, z1734, mi1 (n := s) (by omega), mi1p (b := s) (by omega), mi4 (a := s) (by omega), mi4p (a := s) (by omega), qg] at h46 ⊢
            try simp (disch := omega) only [if_neg] at h46 ⊢
            have hn := mw_done hm hs
            have hn0 : ¬ mn M (56 + s) = 0 := by
              intro z; rw [z] at hn; exact h46 hn.1
            refine zz_cV ok rfl trivial rfl lk_Mo_47 ca_Mo_part rfl rfl rfl rfl rfl (sp_Mo_part (i := mn M (56 + s) - 1) (w := 3) hG rfl hs (by rw [hn.1, ni_lit, ni_subn (by omega)]) (by omega) rfl (by decide) ?_)
            try simp +decide only [z0, z1436, z1437, z1438, z1647, z1728, z1734, mi1 (n := s) (by omega), mi1p (b := s) (by omega), mi4 (a := s) (by omega), mi4p (a := s) (by omega), qg]
            try simp (disch := omega) only [if_neg]
            refine zz_b ok rfl trivial rfl (fun h60 => ?_) (fun h60 => ?_)
            · skip
              try simp +decide only [z0, z1436, z1437, z1438, z1647, z1728, z1734, mi1 (n := s) (by omega), mi1p (b := s) (by omega), mi4 (a := s) (by omega), mi4p (a := s) (by omega), qg] at h60 ⊢
              try simp (disch := omega) only [if_neg] at h60 ⊢
              refine zz_i ok rfl trivial rfl rfl ?_
              exact zz_pq h (by simp [m_readAt, nsv, zz_ixn (show s < 2147483648 by omega), mi1 (n := s) (by omega), h4, h14, h18, h41, h46, h60]) rfl
            · skip
              try simp +decide only [z0, z1436, z1437, z1438, z1647, z1728, z1734, mi1 (n := s) (by omega), mi1p (b := s) (by omega), mi4 (a := s) (by omega), mi4p (a := s) (by omega), qg] at h60 ⊢
              try simp (disch := omega) only [if_neg] at h60 ⊢
              refine zz_cV ok rfl trivial rfl lk_Mo_106 ca_Mo_lastValue rfl rfl rfl rfl rfl (sp_Mo_lastValue (n := mn M (56 + s)) hG rfl hs hn.1 hn.2 ?_)
              try simp +decide only [z0, z1436, z1437, z1438, z1647, z1728, z1734, mi1 (n := s) (by omega), mi1p (b := s) (by omega), mi4 (a := s) (by omega), mi4p (a := s) (by omega), qg]
              try simp (disch := omega) only [if_neg]
              refine zz_i ok rfl trivial rfl rfl ?_
              exact zz_pq h (by simp [m_readAt, nsv, zz_ixn (show s < 2147483648 by omega), mi1 (n := s) (by omega), h4, h14, h18, h41, h46, h60]) rfl
theorem sp_Mo_log {G : zG} {post : Option zV → zM → Prop} {M : zM} {a w : Int32} (hm : mw M) (hG : zz_go G) (h : post (some (.inl (m_log M a w))) M) : zz_T G md_Mo_log [.inr (.inr (6, 0, 0)), .inl a, .inl w] M post := by
  refine en_Mo_log hG rfl (fun Z ok => ?_)
  refine zz_cS ok rfl trivial rfl lk_Mo_54 ca_Mo_isServer rfl rfl rfl (sp_Mo_isServer hG ?_)
  try simp +decide only [z0, z1436, z1437, z1438, z1647, z1728, z1734, mi1 (n := s) (by omega), mi1p (b := s) (by omega), mi4 (a := s) (by omega), mi4p (a := s) (by omega), qg]
  try simp (disch := omega) only [if_neg]
  refine zz_b ok rfl trivial rfl (fun h4 => ?_) (fun h4 => ?_)
  · skip
    try simp +decide only [z0, z1436, z1437, z1438, z1647, z1728, z1734, mi1 (n := s) (by omega), mi1p (b := s) (by omega), mi4 (a := s) (by omega), mi4p (a := s) (by omega), qg] at h4 ⊢
    try simp (disch := omega) only [if_neg] at h4 ⊢
    have h4 := wi_of h4
    refine zz_i ok rfl trivial rfl rfl ?_
    exact zz_pq h (by simp [m_log, nsv, h4]) rfl
  · skip
    try simp +decide only [z0, z1436, z1437, z1438, z1647, z1728, z1734, mi1 (n := s) (by omega), mi1p (b := s) (by omega), mi4 (a := s) (by omega), mi4p (a := s) (by omega), qg] at h4 ⊢
    try simp (disch := omega) only [if_neg] at h4 ⊢
    have h4 := wi_nof h4
    obtain ⟨s, hs, rfl⟩ := ni_w (N := 4) (by decide) h4.1 h4.2
    refine zz_g ok rfl (by and_intros <;> first | exact True.intro | with_reducible exact v0 | with_reducible exact v1436 | with_reducible exact v1437 | with_reducible exact v1438 | with_reducible exact v1647 | with_reducible exact v1728 | with_reducible exact v1734 | with_reducible exact vi1 (by omega) (by decide) | with_reducible exact vi2 (by omega) (by decide) | with_reducible exact vi3 (by omega) (by decide) | with_reducible exact vi1p (by omega) (by decide) | with_reducible exact vi2p (by omega) (by decide) | with_reducible exact vi4 (by omega) (by decide) | with_reducible exact vi4p (by omega) (by decide) | with_reducible exact vi5 (by omega) (by decide) | with_reducible exact vi5p (by omega) (by decide) | trivial | exact vi0 (by decide) (by decide)) ?_
    refine zz_tsw ok sw_Mo_log_22 [(0, 56), (1, 66), (2, 68), (3, 74), (4, 94)] 104 (by decide +kernel) ?_
    refine ⟨fun h22_0 => ?_, fun h22_0 => ?_⟩
    · skip
      refine zz_i ok rfl (by and_intros <;> first | exact True.intro | with_reducible exact v0 | with_reducible exact v1436 | with_reducible exact v1437 | with_reducible exact v1438 | with_reducible exact v1647 | with_reducible exact v1728 | with_reducible exact v1734 | with_reducible exact vi1 (by omega) (by decide) | with_reducible exact vi2 (by omega) (by decide) | with_reducible exact vi3 (by omega) (by decide) | with_reducible exact vi1p (by omega) (by decide) | with_reducible exact vi2p (by omega) (by decide) | with_reducible exact vi4 (by omega) (by decide) | with_reducible exact vi4p (by omega) (by decide) | with_reducible exact vi5 (by omega) (by decide) | with_reducible exact vi5p (by omega) (by decide) | trivial | exact vi0 (by decide) (by decide)) rfl rfl ?_
      exact zz_pq h (by simp [m_log, nsv, zz_ixn (show s < 2147483648 by omega), mi1 (n := s) (by omega), h4, h22_0]) rfl
    refine ⟨fun h22_1 => ?_, fun h22_1 => ?_⟩
    · skip
      refine zz_i ok rfl trivial rfl rfl ?_
      exact zz_pq h (by simp [m_log, nsv, zz_ixn (show s < 2147483648 by omega), mi1 (n := s) (by omega), h4, h22_0, h22_1]) rfl
    refine ⟨fun h22_2 => ?_, fun h22_2 => ?_⟩
    · skip
      refine zz_cV ok rfl trivial rfl lk_Mo_51 ca_Mo_lastTerm rfl rfl rfl rfl rfl (sp_Mo_lastTerm hm hG rfl hs ?_)
      try simp +decide only [z0, z1436, z1437, z1438, z1647, z1728, z1734, mi1 (n := s) (by omega), mi1p (b := s) (by omega), mi4 (a := s) (by omega), mi4p (a := s) (by omega), qg]
      try simp (disch := omega) only [if_neg]
      refine zz_i ok rfl trivial rfl rfl ?_
      exact zz_pq h (by simp [m_log, nsv, zz_ixn (show s < 2147483648 by omega), mi1 (n := s) (by omega), h4, h22_0, h22_1, h22_2]) rfl
    refine ⟨fun h22_3 => ?_, fun h22_3 => ?_⟩
    · skip
      refine zz_b ok rfl trivial rfl (fun h75 => ?_) (fun h75 => ?_)
      · skip
        try simp +decide only [z0, z1436, z1437, z1438, z1647, z1728, z1734, mi1 (n := s) (by omega), mi1p (b := s) (by omega), mi4 (a := s) (by omega), mi4p (a := s) (by omega), qg] at h75 ⊢
        try simp (disch := omega) only [if_neg] at h75 ⊢
        refine zz_i ok rfl trivial rfl rfl ?_
        exact zz_pq h (by simp [m_log, nsv, zz_ixn (show s < 2147483648 by omega), mi1 (n := s) (by omega), h4, h22_0, h22_1, h22_2, h22_3, h75]) rfl
      · skip
        try simp +decide only [z0, z1436, z1437, z1438, z1647, z1728, z1734, mi1 (n := s) (by omega), mi1p (b := s) (by omega), mi4 (a := s) (by omega), mi4p (a := s) (by omega), qg] at h75 ⊢
        try simp (disch := omega) only [if_neg] at h75 ⊢
        have hn := mw_done hm hs
        have hn0 : ¬ mn M (56 + s) = 0 := by
          intro z; rw [z] at hn; exact h75 hn.1
        refine zz_cV ok rfl trivial rfl lk_Mo_47 ca_Mo_part rfl rfl rfl rfl rfl (sp_Mo_part (i := mn M (56 + s) - 1) (w := 3) hG rfl hs (by rw [hn.1, ni_lit, ni_subn (by omega)]) (by omega) rfl (by decide) ?_)
        try simp +decide only [z0, z1436, z1437, z1438, z1647, z1728, z1734, mi1 (n := s) (by omega), mi1p (b := s) (by omega), mi4 (a := s) (by omega), mi4p (a := s) (by omega), qg]
        try simp (disch := omega) only [if_neg]
        refine zz_i ok rfl trivial rfl rfl ?_
        exact zz_pq h (by simp [m_log, nsv, zz_ixn (show s < 2147483648 by omega), mi1 (n := s) (by omega), h4, h22_0, h22_1, h22_2, h22_3, h75]) rfl
    refine ⟨fun h22_4 => ?_, fun h22_4 => ?_⟩
    · skip
      refine zz_i ok rfl (by and_intros <;> first | exact True.intro | with_reducible exact v0 | with_reducible exact v1436 | with_reducible exact v1437 | with_reducible exact v1438 | with_reducible exact v1647 | with_reducible exact v1728 | with_reducible exact v1734 | with_reducible exact vi1 (by omega) (by decide) | with_reducible exact vi2 (by omega) (by decide) | with_reducible exact vi3 (by omega) (by decide) | with_reducible exact vi1p (by omega) (by decide) | with_reducible exact vi2p (by omega) (by decide) | with_reducible exact vi4 (by omega) (by decide) | with_reducible exact vi4p (by omega) (by decide) | with_reducible exact vi5 (by omega) (by decide) | with_reducible exact vi5p (by omega) (by decide) | trivial | exact vi0 (by decide) (by decide)) rfl rfl ?_
      exact zz_pq h (by simp [m_log, nsv, zz_ixn (show s < 2147483648 by omega), mi1 (n := s) (by omega), h4, h22_0, h22_1, h22_2, h22_3, h22_4]) rfl
    refine zz_i ok rfl trivial rfl rfl ?_
    exact zz_pq h (by simp [m_log, nsv, zz_ixn (show s < 2147483648 by omega), mi1 (n := s) (by omega), h4, h22_0, h22_1, h22_2, h22_3, h22_4]) rfl
theorem sp_Mo_entry {G : zG} {post : Option zV → zM → Prop} {M : zM} {a i w : Int32} (hm : mw M) (hG : zz_go G) (h : post (some (.inl (m_entry M a i w))) M) : zz_T G md_Mo_entry [.inr (.inr (6, 0, 0)), .inl a, .inl i, .inl w] M post := by
  refine en_Mo_entry hG rfl (fun Z ok => ?_)
  refine zz_cS ok rfl trivial rfl lk_Mo_54 ca_Mo_isServer rfl rfl rfl (sp_Mo_isServer hG ?_)
  try simp +decide only [z0, z1436, z1437, z1438, z1647, z1728, z1734, mi1 (n := s) (by omega), mi1p (b := s) (by omega), mi4 (a := s) (by omega), mi4p (a := s) (by omega), qg]
  try simp (disch := omega) only [if_neg]
  refine zz_b ok rfl trivial rfl (fun h4 => ?_) (fun h4 => ?_)
  · skip
    try simp +decide only [z0, z1436, z1437, z1438, z1647, z1728, z1734, mi1 (n := s) (by omega), mi1p (b := s) (by omega), mi4 (a := s) (by omega), mi4p (a := s) (by omega), qg] at h4 ⊢
    try simp (disch := omega) only [if_neg] at h4 ⊢
    have h4 := wi_of h4
    refine zz_i ok rfl trivial rfl rfl ?_
    exact zz_pq h (by simp [m_entry, nsv, h4]) rfl
  · skip
    try simp +decide only [z0, z1436, z1437, z1438, z1647, z1728, z1734, mi1 (n := s) (by omega), mi1p (b := s) (by omega), mi4 (a := s) (by omega), mi4p (a := s) (by omega), qg] at h4 ⊢
    try simp (disch := omega) only [if_neg] at h4 ⊢
    have h4 := wi_nof h4
    obtain ⟨s, hs, rfl⟩ := ni_w (N := 4) (by decide) h4.1 h4.2
    refine zz_cS ok rfl (by and_intros <;> first | exact True.intro | with_reducible exact v0 | with_reducible exact v1436 | with_reducible exact v1437 | with_reducible exact v1438 | with_reducible exact v1647 | with_reducible exact v1728 | with_reducible exact v1734 | with_reducible exact vi1 (by omega) (by decide) | with_reducible exact vi2 (by omega) (by decide) | with_reducible exact vi3 (by omega) (by decide) | with_reducible exact vi1p (by omega) (by decide) | with_reducible exact vi2p (by omega) (by decide) | with_reducible exact vi4 (by omega) (by decide) | with_reducible exact vi4p (by omega) (by decide) | with_reducible exact vi5 (by omega) (by decide) | with_reducible exact vi5p (by omega) (by decide) | trivial | exact vi0 (by decide) (by decide)) rfl lk_Mo_32 ca_Mo_in rfl rfl rfl (sp_Mo_in hG ?_)
    try simp +decide only [z0, z1436, z1437, z1438, z1647, z1728, z1734, mi1 (n := s) (by omega), mi1p (b := s) (by omega), mi4 (a := s) (by omega), mi4p (a := s) (by omega), qg]
    try simp (disch := omega) only [if_neg]
    refine zz_b ok rfl trivial rfl (fun h23 => ?_) (fun h23 => ?_)
    · skip
      try simp +decide only [z0, z1436, z1437, z1438, z1647, z1728, z1734, mi1 (n := s) (by omega), mi1p (b := s) (by omega), mi4 (a := s) (by omega), mi4p (a := s) (by omega), qg] at h23 ⊢
      try simp (disch := omega) only [if_neg] at h23 ⊢
      have h23 := wi_of h23
      refine zz_i ok rfl trivial rfl rfl ?_
      exact zz_pq h (by simp [m_entry, nsv, zz_ixn (show s < 2147483648 by omega), h4, h23]) rfl
    · skip
      try simp +decide only [z0, z1436, z1437, z1438, z1647, z1728, z1734, mi1 (n := s) (by omega), mi1p (b := s) (by omega), mi4 (a := s) (by omega), mi4p (a := s) (by omega), qg] at h23 ⊢
      try simp (disch := omega) only [if_neg] at h23 ⊢
      have h23 := wi_nof h23
      have hn := mw_len hm hs
      obtain ⟨j, hj, rfl⟩ := ni_wm hn.1 (by omega) h23.1 h23.2
      have ej : zz_ix (nI j) = j := zz_ixn (by omega)
      refine zz_cS ok rfl trivial rfl lk_Mo_32 ca_Mo_in rfl rfl rfl (sp_Mo_in hG ?_)
      try simp +decide only [z0, z1436, z1437, z1438, z1647, z1728, z1734, mi1 (n := s) (by omega), mi1p (b := s) (by omega), mi4 (a := s) (by omega), mi4p (a := s) (by omega), qg]
      try simp (disch := omega) only [if_neg]
      refine zz_b ok rfl trivial rfl (fun h32 => ?_) (fun h32 => ?_)
      · skip
        try simp +decide only [z0, z1436, z1437, z1438, z1647, z1728, z1734, mi1 (n := s) (by omega), mi1p (b := s) (by omega), mi4 (a := s) (by omega), mi4p (a := s) (by omega), qg] at h32 ⊢
        try simp (disch := omega) only [if_neg] at h32 ⊢
        have h32 := wi_of h32
        refine zz_i ok rfl trivial rfl rfl ?_
        exact zz_pq h (by simp [m_entry, nsv, zz_ixn (show s < 2147483648 by omega), ej, h4, h23, h32]) rfl
      · skip
        try simp +decide only [z0, z1436, z1437, z1438, z1647, z1728, z1734, mi1 (n := s) (by omega), mi1p (b := s) (by omega), mi4 (a := s) (by omega), mi4p (a := s) (by omega), qg] at h32 ⊢
        try simp (disch := omega) only [if_neg] at h32 ⊢
        have h32 := wi_nof h32
        obtain ⟨c, hc3, rfl⟩ := ni_w (N := 3) (by decide) h32.1 h32.2
        have ec : zz_ix (nI c) = c := zz_ixn (by omega)
        refine zz_cV ok rfl trivial rfl lk_Mo_47 ca_Mo_part rfl rfl rfl rfl rfl (sp_Mo_part (i := j) (w := c) hG rfl hs rfl (by omega) rfl (by omega) ?_)
        try simp +decide only [z0, z1436, z1437, z1438, z1647, z1728, z1734, mi1 (n := s) (by omega), mi1p (b := s) (by omega), mi4 (a := s) (by omega), mi4p (a := s) (by omega), qg]
        try simp (disch := omega) only [if_neg]
        refine zz_i ok rfl trivial rfl rfl ?_
        exact zz_pq h (by simp [m_entry, nsv, zz_ixn (show s < 2147483648 by omega), ej, ec, h4, h23, h32]) rfl
theorem sp_Mo_agreement {G : zG} {post : Option zV → zM → Prop} {M : zM} {a b : Int32} (hm : mw M) (hG : zz_go G) (h : post (some (.inl (m_agreement M a b))) M) : zz_T G md_Mo_agreement [.inr (.inr (6, 0, 0)), .inl a, .inl b] M post := by
  refine en_Mo_agreement hG rfl (fun Z ok => ?_)
  refine zz_cS ok rfl trivial rfl lk_Mo_54 ca_Mo_isServer rfl rfl rfl (sp_Mo_isServer hG ?_)
  try simp +decide only [z0, z1436, z1437, z1438, z1647, z1728, z1734, mi1 (n := s) (by omega), mi1p (b := s) (by omega), mi4 (a := s) (by omega), mi4p (a := s) (by omega), mi1 (n := v) (by omega), mi1p (b := v) (by omega), mi4 (a := v) (by omega), mi4p (a := v) (by omega), mi2 (a := s) (b := v) (by omega) (by omega), mi2p (a := s) (b := v) (by omega) (by omega), mi2 (a := v) (b := s) (by omega) (by omega), mi2p (a := v) (b := s) (by omega) (by omega), qg]
  try simp (disch := omega) only [if_neg]
  refine zz_b ok rfl trivial rfl (fun h4 => ?_) (fun h4 => ?_)
  · skip
    try simp +decide only [z0, z1436, z1437, z1438, z1647, z1728, z1734, mi1 (n := s) (by omega), mi1p (b := s) (by omega), mi4 (a := s) (by omega), mi4p (a := s) (by omega), mi1 (n := v) (by omega), mi1p (b := v) (by omega), mi4 (a := v) (by omega), mi4p (a := v) (by omega), mi2 (a := s) (b := v) (by omega) (by omega), mi2p (a := s) (b := v) (by omega) (by omega), mi2 (a := v) (b := s) (by omega) (by omega), mi2p (a := v) (b := s) (by omega) (by omega), qg] at h4 ⊢
    try simp (disch := omega) only [if_neg] at h4 ⊢
    have h4 := wi_of h4
    refine zz_i ok rfl trivial rfl rfl ?_
    exact zz_pq h (by simp [m_agreement, nsv, h4]) rfl
  · skip
    try simp +decide only [z0, z1436, z1437, z1438, z1647, z1728, z1734, mi1 (n := s) (by omega), mi1p (b := s) (by omega), mi4 (a := s) (by omega), mi4p (a := s) (by omega), mi1 (n := v) (by omega), mi1p (b := v) (by omega), mi4 (a := v) (by omega), mi4p (a := v) (by omega), mi2 (a := s) (b := v) (by omega) (by omega), mi2p (a := s) (b := v) (by omega) (by omega), mi2 (a := v) (b := s) (by omega) (by omega), mi2p (a := v) (b := s) (by omega) (by omega), qg] at h4 ⊢
    try simp (disch := omega) only [if_neg] at h4 ⊢
    have h4 := wi_nof h4
    obtain ⟨s, hs, rfl⟩ := ni_w (N := 4) (by decide) h4.1 h4.2
    refine zz_cS ok rfl trivial rfl lk_Mo_54 ca_Mo_isServer rfl rfl rfl (sp_Mo_isServer hG ?_)
    try simp +decide only [z0, z1436, z1437, z1438, z1647, z1728, z1734, mi1 (n := s) (by omega), mi1p (b := s) (by omega), mi4 (a := s) (by omega), mi4p (a := s) (by omega), mi1 (n := v) (by omega), mi1p (b := v) (by omega), mi4 (a := v) (by omega), mi4p (a := v) (by omega), mi2 (a := s) (b := v) (by omega) (by omega), mi2p (a := s) (b := v) (by omega) (by omega), mi2 (a := v) (b := s) (by omega) (by omega), mi2p (a := v) (b := s) (by omega) (by omega), qg]
    try simp (disch := omega) only [if_neg]
    refine zz_b ok rfl trivial rfl (fun h11 => ?_) (fun h11 => ?_)
    · skip
      try simp +decide only [z0, z1436, z1437, z1438, z1647, z1728, z1734, mi1 (n := s) (by omega), mi1p (b := s) (by omega), mi4 (a := s) (by omega), mi4p (a := s) (by omega), mi1 (n := v) (by omega), mi1p (b := v) (by omega), mi4 (a := v) (by omega), mi4p (a := v) (by omega), mi2 (a := s) (b := v) (by omega) (by omega), mi2p (a := s) (b := v) (by omega) (by omega), mi2 (a := v) (b := s) (by omega) (by omega), mi2p (a := v) (b := s) (by omega) (by omega), qg] at h11 ⊢
      try simp (disch := omega) only [if_neg] at h11 ⊢
      have h11 := wi_of h11
      refine zz_i ok rfl trivial rfl rfl ?_
      exact zz_pq h (by simp [m_agreement, nsv, zz_ixn (show s < 2147483648 by omega), mi1 (n := s) (by omega), h4, h11]) rfl
    · skip
      try simp +decide only [z0, z1436, z1437, z1438, z1647, z1728, z1734, mi1 (n := s) (by omega), mi1p (b := s) (by omega), mi4 (a := s) (by omega), mi4p (a := s) (by omega), mi1 (n := v) (by omega), mi1p (b := v) (by omega), mi4 (a := v) (by omega), mi4p (a := v) (by omega), mi2 (a := s) (b := v) (by omega) (by omega), mi2p (a := s) (b := v) (by omega) (by omega), mi2 (a := v) (b := s) (by omega) (by omega), mi2p (a := v) (b := s) (by omega) (by omega), qg] at h11 ⊢
      try simp (disch := omega) only [if_neg] at h11 ⊢
      have h11 := wi_nof h11
      obtain ⟨v, hv, rfl⟩ := ni_w (N := 4) (by decide) h11.1 h11.2
      have hls := mw_len hm hs
      have hlv := mw_len hm hv
      refine zz_b ok rfl (by and_intros <;> first | exact True.intro | with_reducible exact v0 | with_reducible exact v1436 | with_reducible exact v1437 | with_reducible exact v1438 | with_reducible exact v1647 | with_reducible exact v1728 | with_reducible exact v1734 | with_reducible exact vi1 (by omega) (by decide) | with_reducible exact vi2 (by omega) (by decide) | with_reducible exact vi3 (by omega) (by decide) | with_reducible exact vi1p (by omega) (by decide) | with_reducible exact vi2p (by omega) (by decide) | with_reducible exact vi4 (by omega) (by decide) | with_reducible exact vi4p (by omega) (by decide) | with_reducible exact vi5 (by omega) (by decide) | with_reducible exact vi5p (by omega) (by decide) | trivial | exact vi0 (by decide) (by decide)) rfl (fun h36 => ?_) (fun h36 => ?_)
      · skip
        try simp +decide only [z0, z1436, z1437, z1438, z1647, z1728, z1734, mi1 (n := s) (by omega), mi1p (b := s) (by omega), mi4 (a := s) (by omega), mi4p (a := s) (by omega), mi1 (n := v) (by omega), mi1p (b := v) (by omega), mi4 (a := v) (by omega), mi4p (a := v) (by omega), mi2 (a := s) (b := v) (by omega) (by omega), mi2p (a := s) (b := v) (by omega) (by omega), mi2 (a := v) (b := s) (by omega) (by omega), mi2p (a := v) (b := s) (by omega) (by omega), qg] at h36 ⊢
        try simp (disch := omega) only [if_neg] at h36 ⊢
        rw [hls.1, hlv.1, ni_ltn (by omega) (by omega)] at h36
        have lp60 : ∀ (y : Int32), y = nI (min (mn M (51 + s)) (mn M (51 + v))) → zz_W G Z md_Mo_agreement post 60 [(2, .inl (nI v)), (1, .inl (nI s)), (0, .inr (.inr (6, 0, 0)))] [.inl y] M := by
          intro y ey
          subst ey
          have hn : min (mn M (51 + s)) (mn M (51 + v)) ≤ 40 := by omega
          generalize en : min (mn M (51 + s)) (mn M (51 + v)) = n at hn
          generalize hp : (fun k => !(q M (476 + 160 * s + k) == q M (476 + 160 * v + k))) = p
          have lp64 : ∀ (f k : Nat), 4 * n - k < f → k ≤ 4 * n → ∀ (x4 : Int32), x4 = nI k → zz_ff p (4 * n) 0 = zz_ff p (4 * n - k) k → zz_W G Z md_Mo_agreement post 64 [(4, .inl x4), (3, .inl (nI n)), (2, .inl (nI v)), (1, .inl (nI s)), (0, .inr (.inr (6, 0, 0)))] [] M := by
            intro f
            induction f with
            | zero => intro k hf; exact absurd hf (Nat.not_lt_zero _)
            | succ f ih => ?_
            intro k hf hk x4 e4 hff
            subst e4
            refine zz_b ok rfl trivial rfl (fun h69 => ?_) (fun h69 => ?_)
            · skip
              try simp +decide only [z0, z1436, z1437, z1438, z1647, z1728, z1734, mi1 (n := s) (by omega), mi1p (b := s) (by omega), mi4 (a := s) (by omega), mi4p (a := s) (by omega), mi1 (n := v) (by omega), mi1p (b := v) (by omega), mi4 (a := v) (by omega), mi4p (a := v) (by omega), mi2 (a := s) (b := v) (by omega) (by omega), mi2p (a := s) (b := v) (by omega) (by omega), mi2 (a := v) (b := s) (by omega) (by omega), mi2p (a := v) (b := s) (by omega) (by omega), qg] at h69 ⊢
              try simp (disch := omega) only [if_neg] at h69 ⊢
              rw [ni_lit, ni_mul, ni_ltn (by omega) (by omega)] at h69
              refine zz_cV ok rfl (by and_intros <;> first | exact True.intro | with_reducible exact v0 | with_reducible exact v1436 | with_reducible exact v1437 | with_reducible exact v1438 | with_reducible exact v1647 | with_reducible exact v1728 | with_reducible exact v1734 | with_reducible exact vi1 (by omega) (by decide) | with_reducible exact vi2 (by omega) (by decide) | with_reducible exact vi3 (by omega) (by decide) | with_reducible exact vi1p (by omega) (by decide) | with_reducible exact vi2p (by omega) (by decide) | with_reducible exact vi4 (by omega) (by decide) | with_reducible exact vi4p (by omega) (by decide) | with_reducible exact vi5 (by omega) (by decide) | with_reducible exact vi5p (by omega) (by decide) | trivial | exact vi0 (by decide) (by decide)) rfl lk_Mo_47 ca_Mo_part rfl rfl rfl rfl rfl (sp_Mo_part (i := k / 4) (w := k % 4) hG rfl hs (by rw [show (4 : Int32) = nI 4 from rfl, pk_div (by omega) (by decide) (by decide)]) (by omega) (by rw [show (4 : Int32) = nI 4 from rfl, pk_rem (by omega) (by decide) (by decide)]) (by omega) ?_)
              try simp +decide only [z0, z1436, z1437, z1438, z1647, z1728, z1734, mi1 (n := s) (by omega), mi1p (b := s) (by omega), mi4 (a := s) (by omega), mi4p (a := s) (by omega), mi1 (n := v) (by omega), mi1p (b := v) (by omega), mi4 (a := v) (by omega), mi4p (a := v) (by omega), mi2 (a := s) (b := v) (by omega) (by omega), mi2p (a := s) (b := v) (by omega) (by omega), mi2 (a := v) (b := s) (by omega) (by omega), mi2p (a := v) (b := s) (by omega) (by omega), qg]
              try simp (disch := omega) only [if_neg]
              refine zz_cV ok rfl (by and_intros <;> first | exact True.intro | with_reducible exact v0 | with_reducible exact v1436 | with_reducible exact v1437 | with_reducible exact v1438 | with_reducible exact v1647 | with_reducible exact v1728 | with_reducible exact v1734 | with_reducible exact vi1 (by omega) (by decide) | with_reducible exact vi2 (by omega) (by decide) | with_reducible exact vi3 (by omega) (by decide) | with_reducible exact vi1p (by omega) (by decide) | with_reducible exact vi2p (by omega) (by decide) | with_reducible exact vi4 (by omega) (by decide) | with_reducible exact vi4p (by omega) (by decide) | with_reducible exact vi5 (by omega) (by decide) | with_reducible exact vi5p (by omega) (by decide) | trivial | exact vi0 (by decide) (by decide)) rfl lk_Mo_47 ca_Mo_part rfl rfl rfl rfl rfl (sp_Mo_part (i := k / 4) (w := k % 4) hG rfl hv (by rw [show (4 : Int32) = nI 4 from rfl, pk_div (by omega) (by decide) (by decide)]) (by omega) (by rw [show (4 : Int32) = nI 4 from rfl, pk_rem (by omega) (by decide) (by decide)]) (by omega) ?_)
              try simp +decide only [z0, z1436, z1437, z1438, z1647, z1728, z1734, mi1 (n := s) (by omega), mi1p (b := s) (by omega), mi4 (a := s) (by omega), mi4p (a := s) (by omega), mi1 (n := v) (by omega), mi1p (b := v) (by omega), mi4 (a := v) (by omega), mi4p (a := v) (by omega), mi2 (a := s) (b := v) (by omega) (by omega), mi2p (a := s) (b := v) (by omega) (by omega), mi2 (a := v) (b := s) (by omega) (by omega), mi2p (a := v) (b := s) (by omega) (by omega), qg]
              try simp (disch := omega) only [if_neg]
              refine zz_b ok rfl trivial rfl (fun h98 => ?_) (fun h98 => ?_)
              · skip
                try simp +decide only [z0, z1436, z1437, z1438, z1647, z1728, z1734, mi1 (n := s) (by omega), mi1p (b := s) (by omega), mi4 (a := s) (by omega), mi4p (a := s) (by omega), mi1 (n := v) (by omega), mi1p (b := v) (by omega), mi4 (a := v) (by omega), mi4p (a := v) (by omega), mi2 (a := s) (b := v) (by omega) (by omega), mi2p (a := s) (b := v) (by omega) (by omega), mi2 (a := v) (b := s) (by omega) (by omega), mi2p (a := v) (b := s) (by omega) (by omega), qg] at h98 ⊢
                try simp (disch := omega) only [if_neg] at h98 ⊢
                rw [m_pt4, m_pt4] at h98
                refine zz_gx ok [60, 64] rfl trivial ?_
                refine zz_pm [4, 3, 2, 1, 0] rfl ?_
                exact ih (k + 1) (by omega) (by omega) _ (nI_1 k) (by rw [hff, show 4 * n - k = (4 * n - (k + 1)) + 1 by omega, zz_ff, if_neg (by rw [← hp]; simpa using h98)])
              · skip
                try simp +decide only [z0, z1436, z1437, z1438, z1647, z1728, z1734, mi1 (n := s) (by omega), mi1p (b := s) (by omega), mi4 (a := s) (by omega), mi4p (a := s) (by omega), mi1 (n := v) (by omega), mi1p (b := v) (by omega), mi4 (a := v) (by omega), mi4p (a := v) (by omega), mi2 (a := s) (b := v) (by omega) (by omega), mi2p (a := s) (b := v) (by omega) (by omega), mi2 (a := v) (b := s) (by omega) (by omega), mi2p (a := v) (b := s) (by omega) (by omega), qg] at h98 ⊢
                try simp (disch := omega) only [if_neg] at h98 ⊢
                rw [m_pt4, m_pt4] at h98
                refine zz_i ok rfl (by and_intros <;> first | exact True.intro | with_reducible exact v0 | with_reducible exact v1436 | with_reducible exact v1437 | with_reducible exact v1438 | with_reducible exact v1647 | with_reducible exact v1728 | with_reducible exact v1734 | with_reducible exact vi1 (by omega) (by decide) | with_reducible exact vi2 (by omega) (by decide) | with_reducible exact vi3 (by omega) (by decide) | with_reducible exact vi1p (by omega) (by decide) | with_reducible exact vi2p (by omega) (by decide) | with_reducible exact vi4 (by omega) (by decide) | with_reducible exact vi4p (by omega) (by decide) | with_reducible exact vi5 (by omega) (by decide) | with_reducible exact vi5p (by omega) (by decide) | trivial | exact vi0 (by decide) (by decide)) rfl rfl ?_
                exact zz_pq h (by simp only [m_agreement, nsv, zz_ixn (show s < 2147483648 by omega), zz_ixn (show v < 2147483648 by omega)]; rw [if_neg (by simp [h4, h11]), en, hp, hff, show 4 * n - k = (4 * n - (k + 1)) + 1 by omega, zz_ff, if_pos (by rw [← hp]; simpa using h98), ni_lit, pk_div (by omega) (by decide) (by decide)]) rfl
            · skip
              try simp +decide only [z0, z1436, z1437, z1438, z1647, z1728, z1734, mi1 (n := s) (by omega), mi1p (b := s) (by omega), mi4 (a := s) (by omega), mi4p (a := s) (by omega), mi1 (n := v) (by omega), mi1p (b := v) (by omega), mi4 (a := v) (by omega), mi4p (a := v) (by omega), mi2 (a := s) (b := v) (by omega) (by omega), mi2p (a := s) (b := v) (by omega) (by omega), mi2 (a := v) (b := s) (by omega) (by omega), mi2p (a := v) (b := s) (by omega) (by omega), qg] at h69 ⊢
              try simp (disch := omega) only [if_neg] at h69 ⊢
              rw [ni_lit, ni_mul, ni_ltn (by omega) (by omega)] at h69
              have hk4 : k = 4 * n := by omega
              subst hk4
              refine zz_i ok rfl trivial rfl rfl ?_
              exact zz_pq h (by simp only [m_agreement, nsv, zz_ixn (show s < 2147483648 by omega), zz_ixn (show v < 2147483648 by omega)]; rw [if_neg (by simp [h4, h11]), en, hp, hff, Nat.sub_self, zz_ff]; rw [show 4 * n / 4 = n by omega]) rfl
          refine zz_gx ok [60, 64] rfl trivial ?_
          refine zz_pm [4, 3, 2, 1, 0] rfl ?_
          exact lp64 (4 * n + 1) 0 (by omega) (by omega) _ rfl rfl
        refine zz_gx ok [60, 64] rfl (by and_intros <;> first | exact True.intro | with_reducible exact v0 | with_reducible exact v1436 | with_reducible exact v1437 | with_reducible exact v1438 | with_reducible exact v1647 | with_reducible exact v1728 | with_reducible exact v1734 | with_reducible exact vi1 (by omega) (by decide) | with_reducible exact vi2 (by omega) (by decide) | with_reducible exact vi3 (by omega) (by decide) | with_reducible exact vi1p (by omega) (by decide) | with_reducible exact vi2p (by omega) (by decide) | with_reducible exact vi4 (by omega) (by decide) | with_reducible exact vi4p (by omega) (by decide) | with_reducible exact vi5 (by omega) (by decide) | with_reducible exact vi5p (by omega) (by decide) | trivial | exact vi0 (by decide) (by decide)) ?_
        refine zz_pm [2, 1, 0] rfl ?_
        simp +decide only [z0, z1436, z1437, z1438, z1647, z1728, z1734, mi1 (n := s) (by omega), mi1p (b := s) (by omega), mi4 (a := s) (by omega), mi4p (a := s) (by omega), mi1 (n := v) (by omega), mi1p (b := v) (by omega), mi4 (a := v) (by omega), mi4p (a := v) (by omega), mi2 (a := s) (b := v) (by omega) (by omega), mi2p (a := s) (b := v) (by omega) (by omega), mi2 (a := v) (b := s) (by omega) (by omega), mi2p (a := v) (b := s) (by omega) (by omega)]
        exact lp60 _ (by rw [hls.1]; congr 1; omega)
      · skip
        try simp +decide only [z0, z1436, z1437, z1438, z1647, z1728, z1734, mi1 (n := s) (by omega), mi1p (b := s) (by omega), mi4 (a := s) (by omega), mi4p (a := s) (by omega), mi1 (n := v) (by omega), mi1p (b := v) (by omega), mi4 (a := v) (by omega), mi4p (a := v) (by omega), mi2 (a := s) (b := v) (by omega) (by omega), mi2p (a := s) (b := v) (by omega) (by omega), mi2 (a := v) (b := s) (by omega) (by omega), mi2p (a := v) (b := s) (by omega) (by omega), qg] at h36 ⊢
        try simp (disch := omega) only [if_neg] at h36 ⊢
        rw [hls.1, hlv.1, ni_ltn (by omega) (by omega)] at h36
        have lp60 : ∀ (y : Int32), y = nI (min (mn M (51 + s)) (mn M (51 + v))) → zz_W G Z md_Mo_agreement post 60 [(2, .inl (nI v)), (1, .inl (nI s)), (0, .inr (.inr (6, 0, 0)))] [.inl y] M := by
          intro y ey
          subst ey
          have hn : min (mn M (51 + s)) (mn M (51 + v)) ≤ 40 := by omega
          generalize en : min (mn M (51 + s)) (mn M (51 + v)) = n at hn
          generalize hp : (fun k => !(q M (476 + 160 * s + k) == q M (476 + 160 * v + k))) = p
          have lp64 : ∀ (f k : Nat), 4 * n - k < f → k ≤ 4 * n → ∀ (x4 : Int32), x4 = nI k → zz_ff p (4 * n) 0 = zz_ff p (4 * n - k) k → zz_W G Z md_Mo_agreement post 64 [(4, .inl x4), (3, .inl (nI n)), (2, .inl (nI v)), (1, .inl (nI s)), (0, .inr (.inr (6, 0, 0)))] [] M := by
            intro f
            induction f with
            | zero => intro k hf; exact absurd hf (Nat.not_lt_zero _)
            | succ f ih => ?_
            intro k hf hk x4 e4 hff
            subst e4
            refine zz_b ok rfl trivial rfl (fun h69 => ?_) (fun h69 => ?_)
            · skip
              try simp +decide only [z0, z1436, z1437, z1438, z1647, z1728, z1734, mi1 (n := s) (by omega), mi1p (b := s) (by omega), mi4 (a := s) (by omega), mi4p (a := s) (by omega), mi1 (n := v) (by omega), mi1p (b := v) (by omega), mi4 (a := v) (by omega), mi4p (a := v) (by omega), mi2 (a := s) (b := v) (by omega) (by omega), mi2p (a := s) (b := v) (by omega) (by omega), mi2 (a := v) (b := s) (by omega) (by omega), mi2p (a := v) (b := s) (by omega) (by omega), qg] at h69 ⊢
              try simp (disch := omega) only [if_neg] at h69 ⊢
              rw [ni_lit, ni_mul, ni_ltn (by omega) (by omega)] at h69
              refine zz_cV ok rfl (by and_intros <;> first | exact True.intro | with_reducible exact v0 | with_reducible exact v1436 | with_reducible exact v1437 | with_reducible exact v1438 | with_reducible exact v1647 | with_reducible exact v1728 | with_reducible exact v1734 | with_reducible exact vi1 (by omega) (by decide) | with_reducible exact vi2 (by omega) (by decide) | with_reducible exact vi3 (by omega) (by decide) | with_reducible exact vi1p (by omega) (by decide) | with_reducible exact vi2p (by omega) (by decide) | with_reducible exact vi4 (by omega) (by decide) | with_reducible exact vi4p (by omega) (by decide) | with_reducible exact vi5 (by omega) (by decide) | with_reducible exact vi5p (by omega) (by decide) | trivial | exact vi0 (by decide) (by decide)) rfl lk_Mo_47 ca_Mo_part rfl rfl rfl rfl rfl (sp_Mo_part (i := k / 4) (w := k % 4) hG rfl hs (by rw [show (4 : Int32) = nI 4 from rfl, pk_div (by omega) (by decide) (by decide)]) (by omega) (by rw [show (4 : Int32) = nI 4 from rfl, pk_rem (by omega) (by decide) (by decide)]) (by omega) ?_)
              try simp +decide only [z0, z1436, z1437, z1438, z1647, z1728, z1734, mi1 (n := s) (by omega), mi1p (b := s) (by omega), mi4 (a := s) (by omega), mi4p (a := s) (by omega), mi1 (n := v) (by omega), mi1p (b := v) (by omega), mi4 (a := v) (by omega), mi4p (a := v) (by omega), mi2 (a := s) (b := v) (by omega) (by omega), mi2p (a := s) (b := v) (by omega) (by omega), mi2 (a := v) (b := s) (by omega) (by omega), mi2p (a := v) (b := s) (by omega) (by omega), qg]
              try simp (disch := omega) only [if_neg]
              refine zz_cV ok rfl (by and_intros <;> first | exact True.intro | with_reducible exact v0 | with_reducible exact v1436 | with_reducible exact v1437 | with_reducible exact v1438 | with_reducible exact v1647 | with_reducible exact v1728 | with_reducible exact v1734 | with_reducible exact vi1 (by omega) (by decide) | with_reducible exact vi2 (by omega) (by decide) | with_reducible exact vi3 (by omega) (by decide) | with_reducible exact vi1p (by omega) (by decide) | with_reducible exact vi2p (by omega) (by decide) | with_reducible exact vi4 (by omega) (by decide) | with_reducible exact vi4p (by omega) (by decide) | with_reducible exact vi5 (by omega) (by decide) | with_reducible exact vi5p (by omega) (by decide) | trivial | exact vi0 (by decide) (by decide)) rfl lk_Mo_47 ca_Mo_part rfl rfl rfl rfl rfl (sp_Mo_part (i := k / 4) (w := k % 4) hG rfl hv (by rw [show (4 : Int32) = nI 4 from rfl, pk_div (by omega) (by decide) (by decide)]) (by omega) (by rw [show (4 : Int32) = nI 4 from rfl, pk_rem (by omega) (by decide) (by decide)]) (by omega) ?_)
              try simp +decide only [z0, z1436, z1437, z1438, z1647, z1728, z1734, mi1 (n := s) (by omega), mi1p (b := s) (by omega), mi4 (a := s) (by omega), mi4p (a := s) (by omega), mi1 (n := v) (by omega), mi1p (b := v) (by omega), mi4 (a := v) (by omega), mi4p (a := v) (by omega), mi2 (a := s) (b := v) (by omega) (by omega), mi2p (a := s) (b := v) (by omega) (by omega), mi2 (a := v) (b := s) (by omega) (by omega), mi2p (a := v) (b := s) (by omega) (by omega), qg]
              try simp (disch := omega) only [if_neg]
              refine zz_b ok rfl trivial rfl (fun h98 => ?_) (fun h98 => ?_)
              · skip
                try simp +decide only [z0, z1436, z1437, z1438, z1647, z1728, z1734, mi1 (n := s) (by omega), mi1p (b := s) (by omega), mi4 (a := s) (by omega), mi4p (a := s) (by omega), mi1 (n := v) (by omega), mi1p (b := v) (by omega), mi4 (a := v) (by omega), mi4p (a := v) (by omega), mi2 (a := s) (b := v) (by omega) (by omega), mi2p (a := s) (b := v) (by omega) (by omega), mi2 (a := v) (b := s) (by omega) (by omega), mi2p (a := v) (b := s) (by omega) (by omega), qg] at h98 ⊢
                try simp (disch := omega) only [if_neg] at h98 ⊢
                rw [m_pt4, m_pt4] at h98
                refine zz_gx ok [60, 64] rfl trivial ?_
                refine zz_pm [4, 3, 2, 1, 0] rfl ?_
                exact ih (k + 1) (by omega) (by omega) _ (nI_1 k) (by rw [hff, show 4 * n - k = (4 * n - (k + 1)) + 1 by omega, zz_ff, if_neg (by rw [← hp]; simpa using h98)])
              · skip
                try simp +decide only [z0, z1436, z1437, z1438, z1647, z1728, z1734, mi1 (n := s) (by omega), mi1p (b := s) (by omega), mi4 (a := s) (by omega), mi4p (a := s) (by omega), mi1 (n := v) (by omega), mi1p (b := v) (by omega), mi4 (a := v) (by omega), mi4p (a := v) (by omega), mi2 (a := s) (b := v) (by omega) (by omega), mi2p (a := s) (b := v) (by omega) (by omega), mi2 (a := v) (b := s) (by omega) (by omega), mi2p (a := v) (b := s) (by omega) (by omega), qg] at h98 ⊢
                try simp (disch := omega) only [if_neg] at h98 ⊢
                rw [m_pt4, m_pt4] at h98
                refine zz_i ok rfl (by and_intros <;> first | exact True.intro | with_reducible exact v0 | with_reducible exact v1436 | with_reducible exact v1437 | with_reducible exact v1438 | with_reducible exact v1647 | with_reducible exact v1728 | with_reducible exact v1734 | with_reducible exact vi1 (by omega) (by decide) | with_reducible exact vi2 (by omega) (by decide) | with_reducible exact vi3 (by omega) (by decide) | with_reducible exact vi1p (by omega) (by decide) | with_reducible exact vi2p (by omega) (by decide) | with_reducible exact vi4 (by omega) (by decide) | with_reducible exact vi4p (by omega) (by decide) | with_reducible exact vi5 (by omega) (by decide) | with_reducible exact vi5p (by omega) (by decide) | trivial | exact vi0 (by decide) (by decide)) rfl rfl ?_
                exact zz_pq h (by simp only [m_agreement, nsv, zz_ixn (show s < 2147483648 by omega), zz_ixn (show v < 2147483648 by omega)]; rw [if_neg (by simp [h4, h11]), en, hp, hff, show 4 * n - k = (4 * n - (k + 1)) + 1 by omega, zz_ff, if_pos (by rw [← hp]; simpa using h98), ni_lit, pk_div (by omega) (by decide) (by decide)]) rfl
            · skip
              try simp +decide only [z0, z1436, z1437, z1438, z1647, z1728, z1734, mi1 (n := s) (by omega), mi1p (b := s) (by omega), mi4 (a := s) (by omega), mi4p (a := s) (by omega), mi1 (n := v) (by omega), mi1p (b := v) (by omega), mi4 (a := v) (by omega), mi4p (a := v) (by omega), mi2 (a := s) (b := v) (by omega) (by omega), mi2p (a := s) (b := v) (by omega) (by omega), mi2 (a := v) (b := s) (by omega) (by omega), mi2p (a := v) (b := s) (by omega) (by omega), qg] at h69 ⊢
              try simp (disch := omega) only [if_neg] at h69 ⊢
              rw [ni_lit, ni_mul, ni_ltn (by omega) (by omega)] at h69
              have hk4 : k = 4 * n := by omega
              subst hk4
              refine zz_i ok rfl trivial rfl rfl ?_
              exact zz_pq h (by simp only [m_agreement, nsv, zz_ixn (show s < 2147483648 by omega), zz_ixn (show v < 2147483648 by omega)]; rw [if_neg (by simp [h4, h11]), en, hp, hff, Nat.sub_self, zz_ff]; rw [show 4 * n / 4 = n by omega]) rfl
          refine zz_gx ok [60, 64] rfl trivial ?_
          refine zz_pm [4, 3, 2, 1, 0] rfl ?_
          exact lp64 (4 * n + 1) 0 (by omega) (by omega) _ rfl rfl
        refine zz_gx ok [60, 64] rfl (by and_intros <;> first | exact True.intro | with_reducible exact v0 | with_reducible exact v1436 | with_reducible exact v1437 | with_reducible exact v1438 | with_reducible exact v1647 | with_reducible exact v1728 | with_reducible exact v1734 | with_reducible exact vi1 (by omega) (by decide) | with_reducible exact vi2 (by omega) (by decide) | with_reducible exact vi3 (by omega) (by decide) | with_reducible exact vi1p (by omega) (by decide) | with_reducible exact vi2p (by omega) (by decide) | with_reducible exact vi4 (by omega) (by decide) | with_reducible exact vi4p (by omega) (by decide) | with_reducible exact vi5 (by omega) (by decide) | with_reducible exact vi5p (by omega) (by decide) | trivial | exact vi0 (by decide) (by decide)) ?_
        refine zz_pm [2, 1, 0] rfl ?_
        simp +decide only [z0, z1436, z1437, z1438, z1647, z1728, z1734, mi1 (n := s) (by omega), mi1p (b := s) (by omega), mi4 (a := s) (by omega), mi4p (a := s) (by omega), mi1 (n := v) (by omega), mi1p (b := v) (by omega), mi4 (a := v) (by omega), mi4p (a := v) (by omega), mi2 (a := s) (b := v) (by omega) (by omega), mi2p (a := s) (b := v) (by omega) (by omega), mi2 (a := v) (b := s) (by omega) (by omega), mi2p (a := v) (b := s) (by omega) (by omega)]
        exact lp60 _ (by rw [hlv.1]; congr 1; omega)
theorem sp_Mo_history {G : zG} {post : Option zV → zM → Prop} {M : zM} {k i : Int32} (hm : mw M) (hG : zz_go G) (h : post (some (.inl (m_history M k i))) M) : zz_T G md_Mo_history [.inr (.inr (6, 0, 0)), .inl k, .inl i] M post := by
  refine en_Mo_history hG rfl (fun Z ok => ?_)
  have hh := mw_hist hm
  refine zz_cS ok rfl trivial rfl lk_Mo_32 ca_Mo_in rfl rfl rfl (sp_Mo_in hG ?_)
  try simp +decide only [z1436]
  refine zz_b ok rfl trivial rfl (fun h7 => ?_) (fun h7 => ?_)
  · skip
    try simp +decide only [z1436] at h7 ⊢
    have h7 := wi_of h7
    refine zz_i ok rfl trivial rfl rfl ?_
    exact zz_pq h (by simp [m_history, nsv, h7]) rfl
  · skip
    try simp +decide only [z1436] at h7 ⊢
    have h7 := wi_nof h7
    refine zz_b ok rfl trivial rfl (fun h11 => ?_) (fun h11 => ?_)
    · skip
      try simp +decide only [z1436] at h11 ⊢
      refine zz_i ok rfl trivial rfl rfl ?_
      exact zz_pq h (by simp [m_history, nsv, h7, h11]) rfl
    · skip
      try simp +decide only [z1436] at h11 ⊢
      have lp23 : ∀ (f j : Nat), mn M 1436 - j < f → j ≤ mn M 1436 → ∀ (x4 x3 : Int32), x4 = nI j → m_hv M k (mn M 1436) 0 i = m_hv M k (mn M 1436 - j) j x3 → zz_W G Z md_Mo_history post 23 [(4, .inl x4), (3, .inl x3), (2, .inl i), (1, .inl k), (0, .inr (.inr (6, 0, 0)))] [] M := by
        intro f
        induction f with
        | zero => intro j hf; exact absurd hf (Nat.not_lt_zero _)
        | succ f ih => ?_
        intro j hf hj x4 x3 e4 hv
        subst e4
        refine zz_b ok rfl (by and_intros <;> first | exact True.intro | with_reducible exact v0 | with_reducible exact v1436 | with_reducible exact v1437 | with_reducible exact v1438 | with_reducible exact v1647 | with_reducible exact v1728 | with_reducible exact v1734 | with_reducible exact vi1 (by omega) (by decide) | with_reducible exact vi2 (by omega) (by decide) | with_reducible exact vi3 (by omega) (by decide) | with_reducible exact vi1p (by omega) (by decide) | with_reducible exact vi2p (by omega) (by decide) | with_reducible exact vi4 (by omega) (by decide) | with_reducible exact vi4p (by omega) (by decide) | with_reducible exact vi5 (by omega) (by decide) | with_reducible exact vi5p (by omega) (by decide) | trivial | exact vi0 (by decide) (by decide)) rfl (fun h33 => ?_) (fun h33 => ?_)
        · skip
          try simp +decide only [z1436] at h33 ⊢
          rw [hh.1, ni_ltn (by omega) (by omega)] at h33
          refine zz_b ok rfl (by and_intros <;> first | exact True.intro | with_reducible exact v0 | with_reducible exact v1436 | with_reducible exact v1437 | with_reducible exact v1438 | with_reducible exact v1647 | with_reducible exact v1728 | with_reducible exact v1734 | with_reducible exact vi1 (by omega) (by decide) | with_reducible exact vi2 (by omega) (by decide) | with_reducible exact vi3 (by omega) (by decide) | with_reducible exact vi1p (by omega) (by decide) | with_reducible exact vi2p (by omega) (by decide) | with_reducible exact vi4 (by omega) (by decide) | with_reducible exact vi4p (by omega) (by decide) | with_reducible exact vi5 (by omega) (by decide) | with_reducible exact vi5p (by omega) (by decide) | trivial | exact vi0 (by decide) (by decide)) rfl (fun h52 => ?_) (fun h52 => ?_)
          · skip
            try simp +decide only [z1436] at h52 ⊢
            simp +decide only [mi4p (a := j) (by omega)] at h52
            refine zz_b ok rfl trivial rfl (fun h56 => ?_) (fun h56 => ?_)
            · skip
              try simp +decide only [z1436] at h56 ⊢
              refine zz_i ok rfl (by and_intros <;> first | exact True.intro | with_reducible exact v0 | with_reducible exact v1436 | with_reducible exact v1437 | with_reducible exact v1438 | with_reducible exact v1647 | with_reducible exact v1728 | with_reducible exact v1734 | with_reducible exact vi1 (by omega) (by decide) | with_reducible exact vi2 (by omega) (by decide) | with_reducible exact vi3 (by omega) (by decide) | with_reducible exact vi1p (by omega) (by decide) | with_reducible exact vi2p (by omega) (by decide) | with_reducible exact vi4 (by omega) (by decide) | with_reducible exact vi4p (by omega) (by decide) | with_reducible exact vi5 (by omega) (by decide) | with_reducible exact vi5p (by omega) (by decide) | trivial | exact vi0 (by decide) (by decide)) rfl rfl ?_
              simp +decide only [mi4p (a := j) (by omega)]
              exact zz_pq h (by simp [m_history, h7, h11]; rw [hv, show mn M 1436 - j = (mn M 1436 - (j + 1)) + 1 by omega, m_hv, if_pos h52, if_pos h56]) rfl
            · skip
              try simp +decide only [z1436] at h56 ⊢
              refine zz_g ok rfl trivial ?_
              refine zz_pm [4, 3, 2, 1, 0] rfl ?_
              exact ih (j + 1) (by omega) (by omega) _ _ (nI_1 j) (by rw [hv, show mn M 1436 - j = (mn M 1436 - (j + 1)) + 1 by omega, m_hv, if_pos h52, if_neg h56]; rw [Int32.sub_eq_add_neg])
          · skip
            try simp +decide only [z1436] at h52 ⊢
            simp +decide only [mi4p (a := j) (by omega)] at h52
            refine zz_g ok rfl trivial ?_
            refine zz_pm [4, 3, 2, 1, 0] rfl ?_
            exact ih (j + 1) (by omega) (by omega) _ _ (nI_1 j) (by rw [hv, show mn M 1436 - j = (mn M 1436 - (j + 1)) + 1 by omega, m_hv, if_neg h52])
        · skip
          try simp +decide only [z1436] at h33 ⊢
          rw [hh.1, ni_ltn (by omega) (by omega)] at h33
          have hjn : j = mn M 1436 := by omega
          refine zz_i ok rfl trivial rfl rfl ?_
          exact zz_pq h (by simp [m_history, h7, h11]; rw [hv, hjn, Nat.sub_self, m_hv]) rfl
      refine zz_g ok rfl trivial ?_
      refine zz_pm [4, 3, 2, 1, 0] rfl ?_
      exact lp23 (mn M 1436 + 1) 0 (by omega) (by omega) _ _ rfl rfl
theorem sp_Mo_acknowledgement {G : zG} {post : Option zV → zM → Prop} {M : zM} {i w : Int32} (hm : mw M) (hG : zz_go G) (h : post (some (.inl (m_ack M i w))) M) : zz_T G md_Mo_acknowledgement [.inr (.inr (6, 0, 0)), .inl i, .inl w] M post := by
  refine en_Mo_acknowledgement hG rfl (fun Z ok => ?_)
  refine zz_b ok rfl trivial rfl (fun h1 => ?_) (fun h1 => ?_)
  · skip
    try simp +decide only [z1437] at h1 ⊢
    refine zz_i ok rfl trivial rfl rfl ?_
    try simp +decide only [mi2 (a := j) (b := c) (by omega) (by omega)]
    exact zz_pq h (by simp [m_ack, h1]) rfl
  · skip
    try simp +decide only [z1437] at h1 ⊢
    refine zz_cS ok rfl trivial rfl lk_Mo_32 ca_Mo_in rfl rfl rfl (sp_Mo_in hG ?_)
    try simp +decide only [z1437]
    refine zz_b ok rfl trivial rfl (fun h10 => ?_) (fun h10 => ?_)
    · skip
      try simp +decide only [z1437] at h10 ⊢
      have h10 := wi_of h10
      refine zz_i ok rfl trivial rfl rfl ?_
      try simp +decide only [mi2 (a := j) (b := c) (by omega) (by omega)]
      exact zz_pq h (by simp [m_ack, h1, h10]) rfl
    · skip
      try simp +decide only [z1437] at h10 ⊢
      have h10 := wi_nof h10
      obtain ⟨c, hc, rfl⟩ := ni_w (N := 3) (by decide) h10.1 h10.2
      have ec : zz_ix (nI c) = c := zz_ixn (by omega)
      refine zz_b ok rfl (by and_intros <;> first | exact True.intro | with_reducible exact v0 | with_reducible exact v1436 | with_reducible exact v1437 | with_reducible exact v1438 | with_reducible exact v1647 | with_reducible exact v1728 | with_reducible exact v1734 | with_reducible exact vi1 (by omega) (by decide) | with_reducible exact vi2 (by omega) (by decide) | with_reducible exact vi3 (by omega) (by decide) | with_reducible exact vi1p (by omega) (by decide) | with_reducible exact vi2p (by omega) (by decide) | with_reducible exact vi4 (by omega) (by decide) | with_reducible exact vi4p (by omega) (by decide) | with_reducible exact vi5 (by omega) (by decide) | with_reducible exact vi5p (by omega) (by decide) | trivial | exact vi0 (by decide) (by decide)) rfl (fun h26 => ?_) (fun h26 => ?_)
      · skip
        try simp +decide only [z1437] at h26 ⊢
        have hk := mw_kept hm
        obtain ⟨j, hj, rfl⟩ := ni_ofr hk.1 (by omega) h1 h26
        have ej : zz_ix (nI j) = j := zz_ixn (by omega)
        refine zz_i ok rfl (by and_intros <;> first | exact True.intro | with_reducible exact v0 | with_reducible exact v1436 | with_reducible exact v1437 | with_reducible exact v1438 | with_reducible exact v1647 | with_reducible exact v1728 | with_reducible exact v1734 | with_reducible exact vi1 (by omega) (by decide) | with_reducible exact vi2 (by omega) (by decide) | with_reducible exact vi3 (by omega) (by decide) | with_reducible exact vi1p (by omega) (by decide) | with_reducible exact vi2p (by omega) (by decide) | with_reducible exact vi4 (by omega) (by decide) | with_reducible exact vi4p (by omega) (by decide) | with_reducible exact vi5 (by omega) (by decide) | with_reducible exact vi5p (by omega) (by decide) | trivial | exact vi0 (by decide) (by decide)) rfl rfl ?_
        try simp +decide only [mi2 (a := j) (b := c) (by omega) (by omega)]
        exact zz_pq h (by simp [m_ack, ec, ej, h1, h10, h26]) rfl
      · skip
        try simp +decide only [z1437] at h26 ⊢
        refine zz_i ok rfl trivial rfl rfl ?_
        try simp +decide only [mi2 (a := j) (b := c) (by omega) (by omega)]
        exact zz_pq h (by simp [m_ack, ec, h1, h10, h26]) rfl
theorem sp_Mo_send {G : zG} {post : Option zV → zM → Prop} {M : zM} {a c v : Int32} (hm : mw M) (hG : zz_go G) (h : post (some (.inl (m_send M a c v).1)) (m_send M a c v).2) : zz_T G md_Mo_send [.inr (.inr (6, 0, 0)), .inl a, .inl c, .inl v] M post := by
  refine en_Mo_send hG rfl (fun Z ok => ?_)
  refine zz_cS ok rfl trivial rfl lk_Mo_54 ca_Mo_isServer rfl rfl rfl (sp_Mo_isServer hG ?_)
  try simp +decide only [z1647]
  refine zz_b ok rfl trivial rfl (fun h4 => ?_) (fun h4 => ?_)
  · skip
    try simp +decide only [z1647] at h4 ⊢
    have h4 := wi_of h4
    refine zz_i ok rfl trivial rfl rfl ?_
    exact zz_pq h (by simp [m_send, nsv, h4]) (by simp [m_send, nsv, h4])
  · skip
    try simp +decide only [z1647] at h4 ⊢
    have h4 := wi_nof h4
    obtain ⟨s, hs, rfl⟩ := ni_w (N := 4) (by decide) h4.1 h4.2
    refine zz_cS ok rfl trivial rfl lk_Mo_32 ca_Mo_in rfl rfl rfl (sp_Mo_in hG ?_)
    try simp +decide only [z1647]
    refine zz_b ok rfl trivial rfl (fun h13 => ?_) (fun h13 => ?_)
    · skip
      try simp +decide only [z1647] at h13 ⊢
      have h13 := wi_of h13
      refine zz_i ok rfl trivial rfl rfl ?_
      exact zz_pq h (by simp [m_send, nsv, zz_ixn (show s < 2147483648 by omega), mi1 (n := s) (by omega), h4, h13]) (by simp [m_send, nsv, zz_ixn (show s < 2147483648 by omega), mi1 (n := s) (by omega), h4, h13])
    · skip
      try simp +decide only [z1647] at h13 ⊢
      have h13 := wi_nof h13
      refine zz_cS ok rfl trivial rfl lk_Mo_32 ca_Mo_in rfl rfl rfl (sp_Mo_in hG ?_)
      try simp +decide only [z1647]
      refine zz_b ok rfl trivial rfl (fun h24 => ?_) (fun h24 => ?_)
      · skip
        try simp +decide only [z1647] at h24 ⊢
        have h24 := wi_of h24
        refine zz_i ok rfl trivial rfl rfl ?_
        exact zz_pq h (by simp [m_send, nsv, zz_ixn (show s < 2147483648 by omega), mi1 (n := s) (by omega), h4, h13, h24]) (by simp [m_send, nsv, zz_ixn (show s < 2147483648 by omega), mi1 (n := s) (by omega), h4, h13, h24])
      · skip
        try simp +decide only [z1647] at h24 ⊢
        have h24 := wi_nof h24
        refine zz_cV ok rfl trivial rfl lk_Mo_81 ca_Mo_hasIt rfl rfl rfl rfl rfl (sp_Mo_hasIt hG rfl hs ?_)
        try simp +decide only [z1647]
        refine zz_b ok rfl trivial rfl (fun h36 => ?_) (fun h36 => ?_)
        · skip
          try simp +decide only [z1647] at h36 ⊢
          simp only [zz_bi0, Bool.not_eq_false] at h36
          refine zz_i ok rfl trivial rfl rfl ?_
          exact zz_pq h (by simp [m_send, nsv, zz_ixn (show s < 2147483648 by omega), mi1 (n := s) (by omega), h4, h13, h24, h36]) (by simp [m_send, nsv, zz_ixn (show s < 2147483648 by omega), mi1 (n := s) (by omega), h4, h13, h24, h36])
        · skip
          try simp +decide only [z1647] at h36 ⊢
          simp only [zz_bi0, Bool.not_eq_false] at h36
          refine zz_b ok rfl (by and_intros <;> first | exact True.intro | with_reducible exact v0 | with_reducible exact v1436 | with_reducible exact v1437 | with_reducible exact v1438 | with_reducible exact v1647 | with_reducible exact v1728 | with_reducible exact v1734 | with_reducible exact vi1 (by omega) (by decide) | with_reducible exact vi2 (by omega) (by decide) | with_reducible exact vi3 (by omega) (by decide) | with_reducible exact vi1p (by omega) (by decide) | with_reducible exact vi2p (by omega) (by decide) | with_reducible exact vi4 (by omega) (by decide) | with_reducible exact vi4p (by omega) (by decide) | with_reducible exact vi5 (by omega) (by decide) | with_reducible exact vi5p (by omega) (by decide) | trivial | exact vi0 (by decide) (by decide)) rfl (fun h57 => ?_) (fun h57 => ?_)
          · skip
            try simp +decide only [z1647] at h57 ⊢
            refine zz_i ok rfl trivial rfl rfl ?_
            exact zz_pq h (by simp [m_send, nsv, zz_ixn (show s < 2147483648 by omega), mi1 (n := s) (by omega), h4, h13, h24, h36, h57]) (by simp [m_send, nsv, zz_ixn (show s < 2147483648 by omega), mi1 (n := s) (by omega), h4, h13, h24, h36, h57])
          · skip
            try simp +decide only [z1647] at h57 ⊢
            have hk := mw_sent hm
            have hk20 : ¬ mn M 1647 = 20 := fun z => h57 (by rw [hk.1, z]; rfl)
            generalize en : mn M 1647 = n at hk hk20
            simp only [hk.1]
            refine zz_i ok rfl (by and_intros <;> first | exact True.intro | with_reducible exact v0 | with_reducible exact v1436 | with_reducible exact v1437 | with_reducible exact v1438 | with_reducible exact v1647 | with_reducible exact v1728 | with_reducible exact v1734 | with_reducible exact vi1 (by omega) (by decide) | with_reducible exact vi2 (by omega) (by decide) | with_reducible exact vi3 (by omega) (by decide) | with_reducible exact vi1p (by omega) (by decide) | with_reducible exact vi2p (by omega) (by decide) | with_reducible exact vi4 (by omega) (by decide) | with_reducible exact vi4p (by omega) (by decide) | with_reducible exact vi5 (by omega) (by decide) | with_reducible exact vi5p (by omega) (by decide) | trivial | exact vi0 (by decide) (by decide)) rfl rfl ?_
            simp +decide only [z1647, mi1 (n := s) (by omega), mi4 (a := n) (by omega), mi4p (a := n) (by omega), qg]
            simp (disch := omega) only [if_neg]
            have h57b : ¬ nI n = 20 := by rw [← hk.1]; exact h57
            exact zz_pq h (by simp [m_send, nsv, h4, h13, h24, h36, h57b, hk.1, zz_ixn (show s < 2147483648 by omega)]) (by simp [m_send, nsv, h4, h13, h24, h36, h57b, en, hk.1, zz_ixn (show s < 2147483648 by omega)])
theorem sp_Mo_deliver {G : zG} {post : Option zV → zM → Prop} {M : zM} {k : Int32} (hm : mw M) (hc : mcl M) (hG : zz_go G) (h : post (some (.inl (m_deliver M k).1)) (m_deliver M k).2) : zz_T G md_Mo_deliver [.inr (.inr (6, 0, 0)), .inl k] M post := by
  refine en_Mo_deliver hG rfl (fun Z ok => ?_)
  have hk := mw_sent hm
  refine zz_cS ok rfl (by and_intros <;> first | exact True.intro | with_reducible exact v0 | with_reducible exact v1436 | with_reducible exact v1437 | with_reducible exact v1438 | with_reducible exact v1647 | with_reducible exact v1728 | with_reducible exact v1734 | with_reducible exact vi1 (by omega) (by decide) | with_reducible exact vi2 (by omega) (by decide) | with_reducible exact vi3 (by omega) (by decide) | with_reducible exact vi1p (by omega) (by decide) | with_reducible exact vi2p (by omega) (by decide) | with_reducible exact vi4 (by omega) (by decide) | with_reducible exact vi4p (by omega) (by decide) | with_reducible exact vi5 (by omega) (by decide) | with_reducible exact vi5p (by omega) (by decide) | trivial | exact vi0 (by decide) (by decide)) rfl lk_Mo_32 ca_Mo_in rfl rfl rfl (sp_Mo_in hG ?_)
  try simp +decide only [z1647]
  refine zz_b ok rfl trivial rfl (fun h15 => ?_) (fun h15 => ?_)
  · skip
    try simp +decide only [z1647] at h15 ⊢
    have h15 := wi_of h15
    refine zz_i ok rfl trivial rfl rfl ?_
    exact zz_pq h (by simp [m_deliver, nsv, h15]) (by simp [m_deliver, nsv, h15])
  · skip
    try simp +decide only [z1647] at h15 ⊢
    have h15 := wi_nof h15
    obtain ⟨j, hj, rfl⟩ := ni_wm hk.1 (by omega) h15.1 h15.2
    have ej : zz_ix (nI j) = j := zz_ixn (by omega)
    obtain ⟨c, hc4, ec⟩ := hc j hj
    have ecx : mn M (1648 + 4 * j + 1) = c := ni_ix ec (by omega)
    refine zz_b ok rfl (by and_intros <;> first | exact True.intro | with_reducible exact v0 | with_reducible exact v1436 | with_reducible exact v1437 | with_reducible exact v1438 | with_reducible exact v1647 | with_reducible exact v1728 | with_reducible exact v1734 | with_reducible exact vi1 (by omega) (by decide) | with_reducible exact vi2 (by omega) (by decide) | with_reducible exact vi3 (by omega) (by decide) | with_reducible exact vi1p (by omega) (by decide) | with_reducible exact vi2p (by omega) (by decide) | with_reducible exact vi4 (by omega) (by decide) | with_reducible exact vi4p (by omega) (by decide) | with_reducible exact vi5 (by omega) (by decide) | with_reducible exact vi5p (by omega) (by decide) | trivial | exact vi0 (by decide) (by decide)) rfl (fun h39 => ?_) (fun h39 => ?_)
    · skip
      try simp +decide only [z1647] at h39 ⊢
      simp +decide only [mi4p (a := j) (by omega)] at h39
      refine zz_i ok rfl trivial rfl rfl ?_
      exact zz_pq h (by simp [m_deliver, h15, ej, h39]) (by simp [m_deliver, h15, ej, h39])
    · skip
      try simp +decide only [z1647] at h39 ⊢
      simp +decide only [mi4p (a := j) (by omega)] at h39
      refine zz_b ok rfl (by simp +decide only [mi4 (a := j) (by omega), mi4p (a := j) (by omega), qg]; simp (disch := omega) only [if_neg, ec]; and_intros <;> first | exact True.intro | with_reducible exact v0 | with_reducible exact v1436 | with_reducible exact v1437 | with_reducible exact v1438 | with_reducible exact v1647 | with_reducible exact v1728 | with_reducible exact v1734 | with_reducible exact vi1 (by omega) (by decide) | with_reducible exact vi2 (by omega) (by decide) | with_reducible exact vi3 (by omega) (by decide) | with_reducible exact vi1p (by omega) (by decide) | with_reducible exact vi2p (by omega) (by decide) | with_reducible exact vi4 (by omega) (by decide) | with_reducible exact vi4p (by omega) (by decide) | with_reducible exact vi5 (by omega) (by decide) | with_reducible exact vi5p (by omega) (by decide) | trivial | exact vi0 (by decide) (by decide)) rfl (fun h84 => ?_) (fun h84 => ?_)
      · skip
        try simp +decide only [z1647] at h84 ⊢
        simp +decide only [mi4 (a := j) (by omega), mi4p (a := j) (by omega), qg] at h84 ⊢
        simp (disch := omega) only [if_neg, ec] at h84 ⊢
        simp +decide only [mi4p (a := c) (by omega)] at h84
        simp (disch := omega) only [if_neg] at h84
        refine zz_i ok rfl (by and_intros <;> first | exact True.intro | with_reducible exact v0 | with_reducible exact v1436 | with_reducible exact v1437 | with_reducible exact v1438 | with_reducible exact v1647 | with_reducible exact v1728 | with_reducible exact v1734 | with_reducible exact vi1 (by omega) (by decide) | with_reducible exact vi2 (by omega) (by decide) | with_reducible exact vi3 (by omega) (by decide) | with_reducible exact vi1p (by omega) (by decide) | with_reducible exact vi2p (by omega) (by decide) | with_reducible exact vi4 (by omega) (by decide) | with_reducible exact vi4p (by omega) (by decide) | with_reducible exact vi5 (by omega) (by decide) | with_reducible exact vi5p (by omega) (by decide) | trivial | exact vi0 (by decide) (by decide)) rfl rfl ?_
        simp +decide only [z1728, mi4 (a := j) (by omega), mi4p (a := j) (by omega), mi4 (a := c) (by omega), mi4p (a := c) (by omega), qg]
        simp (disch := omega) only [if_neg]
        exact zz_pq h (by simp [m_deliver, h15, ej, h39, ecx, m_dv, h84]) (by simp [m_deliver, h15, ej, h39, ecx, m_dv, h84])
      · skip
        try simp +decide only [z1647] at h84 ⊢
        simp +decide only [mi4 (a := j) (by omega), mi4p (a := j) (by omega), qg] at h84 ⊢
        simp (disch := omega) only [if_neg, ec] at h84 ⊢
        simp +decide only [mi4p (a := c) (by omega)] at h84
        simp (disch := omega) only [if_neg] at h84
        refine zz_i ok rfl (by and_intros <;> first | exact True.intro | with_reducible exact v0 | with_reducible exact v1436 | with_reducible exact v1437 | with_reducible exact v1438 | with_reducible exact v1647 | with_reducible exact v1728 | with_reducible exact v1734 | with_reducible exact vi1 (by omega) (by decide) | with_reducible exact vi2 (by omega) (by decide) | with_reducible exact vi3 (by omega) (by decide) | with_reducible exact vi1p (by omega) (by decide) | with_reducible exact vi2p (by omega) (by decide) | with_reducible exact vi4 (by omega) (by decide) | with_reducible exact vi4p (by omega) (by decide) | with_reducible exact vi5 (by omega) (by decide) | with_reducible exact vi5p (by omega) (by decide) | trivial | exact vi0 (by decide) (by decide)) rfl rfl ?_
        simp +decide only [z1728, mi4 (a := j) (by omega), mi4p (a := j) (by omega), mi4 (a := c) (by omega), mi4p (a := c) (by omega), qg]
        simp (disch := omega) only [if_neg]
        exact zz_pq h (by simp [m_deliver, h15, ej, h39, ecx, m_dv, h84]) (by simp [m_deliver, h15, ej, h39, ecx, m_dv, h84])
theorem sp_Mo_cell {G : zG} {post : Option zV → zM → Prop} {M : zM} {c w : Int32} (hG : zz_go G) (h : post (some (.inl (m_cell M c w))) M) : zz_T G md_Mo_cell [.inr (.inr (6, 0, 0)), .inl c, .inl w] M post := by
  refine en_Mo_cell hG rfl (fun Z ok => ?_)
  refine zz_cS ok rfl trivial rfl lk_Mo_32 ca_Mo_in rfl rfl rfl (sp_Mo_in hG ?_)
  refine zz_b ok rfl trivial rfl (fun h6 => ?_) (fun h6 => ?_)
  · skip
    have h6 := wi_of h6
    refine zz_i ok rfl trivial rfl rfl ?_
    try simp +decide only [mi2 (a := i) (b := j) (by omega) (by omega)]
    exact zz_pq h (by simp [m_cell, h6]) rfl
  · skip
    have h6 := wi_nof h6
    obtain ⟨i, hi, rfl⟩ := ni_w (N := 3) (by decide) h6.1 h6.2
    have ei : zz_ix (nI i) = i := zz_ixn (by omega)
    refine zz_cS ok rfl trivial rfl lk_Mo_32 ca_Mo_in rfl rfl rfl (sp_Mo_in hG ?_)
    refine zz_b ok rfl trivial rfl (fun h15 => ?_) (fun h15 => ?_)
    · skip
      have h15 := wi_of h15
      refine zz_i ok rfl trivial rfl rfl ?_
      try simp +decide only [mi2 (a := i) (b := j) (by omega) (by omega)]
      exact zz_pq h (by simp [m_cell, ei, h6, h15]) rfl
    · skip
      have h15 := wi_nof h15
      obtain ⟨j, hj, rfl⟩ := ni_w (N := 1) (by decide) h15.1 h15.2
      have ej : zz_ix (nI j) = j := zz_ixn (by omega)
      refine zz_i ok rfl (by and_intros <;> first | exact True.intro | with_reducible exact v0 | with_reducible exact v1436 | with_reducible exact v1437 | with_reducible exact v1438 | with_reducible exact v1647 | with_reducible exact v1728 | with_reducible exact v1734 | with_reducible exact vi1 (by omega) (by decide) | with_reducible exact vi2 (by omega) (by decide) | with_reducible exact vi3 (by omega) (by decide) | with_reducible exact vi1p (by omega) (by decide) | with_reducible exact vi2p (by omega) (by decide) | with_reducible exact vi4 (by omega) (by decide) | with_reducible exact vi4p (by omega) (by decide) | with_reducible exact vi5 (by omega) (by decide) | with_reducible exact vi5p (by omega) (by decide) | trivial | exact vi0 (by decide) (by decide)) rfl rfl ?_
      try simp +decide only [mi2 (a := i) (b := j) (by omega) (by omega)]
      exact zz_pq h (by simp [m_cell, ei, ej, h6, h15]) rfl
theorem sp_Mo_safeFor {G : zG} {post : Option zV → zM → Prop} {M : zM} {a : Int32} (hG : zz_go G) (h : post (some (.inl (m_safeFor M a))) M) : zz_T G md_Mo_safeFor [.inr (.inr (6, 0, 0)), .inl a] M post := by
  refine en_Mo_safeFor hG rfl (fun Z ok => ?_)
  refine zz_cS ok rfl trivial rfl lk_Mo_54 ca_Mo_isServer rfl rfl rfl (sp_Mo_isServer hG ?_)
  try simp +decide only [z0, z1436, z1437, z1438, z1647, z1728, z1734, mi1 (n := s) (by omega), mi1p (b := s) (by omega), mi4 (a := s) (by omega), mi4p (a := s) (by omega), qg]
  try simp (disch := omega) only [if_neg]
  refine zz_b ok rfl trivial rfl (fun h4 => ?_) (fun h4 => ?_)
  · skip
    try simp +decide only [z0, z1436, z1437, z1438, z1647, z1728, z1734, mi1 (n := s) (by omega), mi1p (b := s) (by omega), mi4 (a := s) (by omega), mi4p (a := s) (by omega), qg] at h4 ⊢
    try simp (disch := omega) only [if_neg] at h4 ⊢
    have h4 := wi_of h4
    refine zz_i ok rfl trivial rfl rfl ?_
    exact zz_pq h (by simp [m_safeFor, nsv, h4]) rfl
  · skip
    try simp +decide only [z0, z1436, z1437, z1438, z1647, z1728, z1734, mi1 (n := s) (by omega), mi1p (b := s) (by omega), mi4 (a := s) (by omega), mi4p (a := s) (by omega), qg] at h4 ⊢
    try simp (disch := omega) only [if_neg] at h4 ⊢
    have h4 := wi_nof h4
    obtain ⟨s, hs, rfl⟩ := ni_w (N := 4) (by decide) h4.1 h4.2
    refine zz_cV ok rfl trivial rfl lk_Mo_81 ca_Mo_hasIt rfl rfl rfl rfl rfl (sp_Mo_hasIt hG rfl hs ?_)
    try simp +decide only [z0, z1436, z1437, z1438, z1647, z1728, z1734, mi1 (n := s) (by omega), mi1p (b := s) (by omega), mi4 (a := s) (by omega), mi4p (a := s) (by omega), qg]
    try simp (disch := omega) only [if_neg]
    refine zz_b ok rfl trivial rfl (fun h16 => ?_) (fun h16 => ?_)
    · skip
      try simp +decide only [z0, z1436, z1437, z1438, z1647, z1728, z1734, mi1 (n := s) (by omega), mi1p (b := s) (by omega), mi4 (a := s) (by omega), mi4p (a := s) (by omega), qg] at h16 ⊢
      try simp (disch := omega) only [if_neg] at h16 ⊢
      simp only [zz_bi0, Bool.not_eq_false] at h16
      refine zz_i ok rfl trivial rfl rfl ?_
      exact zz_pq h (by simp [m_safeFor, nsv, zz_ixn (show s < 2147483648 by omega), mi1 (n := s) (by omega), h4, h16]) rfl
    · skip
      try simp +decide only [z0, z1436, z1437, z1438, z1647, z1728, z1734, mi1 (n := s) (by omega), mi1p (b := s) (by omega), mi4 (a := s) (by omega), mi4p (a := s) (by omega), qg] at h16 ⊢
      try simp (disch := omega) only [if_neg] at h16 ⊢
      simp only [zz_bi0, Bool.not_eq_false] at h16
      refine zz_cV ok rfl (by and_intros <;> first | exact True.intro | with_reducible exact v0 | with_reducible exact v1436 | with_reducible exact v1437 | with_reducible exact v1438 | with_reducible exact v1647 | with_reducible exact v1728 | with_reducible exact v1734 | with_reducible exact vi1 (by omega) (by decide) | with_reducible exact vi2 (by omega) (by decide) | with_reducible exact vi3 (by omega) (by decide) | with_reducible exact vi1p (by omega) (by decide) | with_reducible exact vi2p (by omega) (by decide) | with_reducible exact vi4 (by omega) (by decide) | with_reducible exact vi4p (by omega) (by decide) | with_reducible exact vi5 (by omega) (by decide) | with_reducible exact vi5p (by omega) (by decide) | trivial | exact vi0 (by decide) (by decide)) rfl lk_Mo_44 ca_Mo_latest rfl rfl rfl rfl rfl (sp_Mo_latest hG rfl hs ?_)
      try simp +decide only [z0, z1436, z1437, z1438, z1647, z1728, z1734, mi1 (n := s) (by omega), mi1p (b := s) (by omega), mi4 (a := s) (by omega), mi4p (a := s) (by omega), qg]
      try simp (disch := omega) only [if_neg]
      refine zz_i ok rfl trivial rfl rfl ?_
      exact zz_pq h (by simp [m_safeFor, nsv, zz_ixn (show s < 2147483648 by omega), mi1 (n := s) (by omega), h4, h16]) rfl
