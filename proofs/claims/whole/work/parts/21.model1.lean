abbrev q (M : zM) (i : Nat) : Int32 := M.1 (20, 0, 0) i
abbrev qs (M : zM) (i : Nat) (v : Int32) : zM := zz_set M (20, 0, 0) i v
def mn (M : zM) (i : Nat) : Nat := zz_ix (q M i)
theorem mi0 (c : Nat) (hc : c ≤ 100000) : zz_ix (OfNat.ofNat c) = OfNat.ofNat c := zz_ixn (n := c) (by omega)
theorem mi1 {n : Nat} (hn : n < 100000) (c : Nat) (hc : c ≤ 100000) : zz_ix (OfNat.ofNat c + nI n) = OfNat.ofNat c + n := by
  rw [ni_lit, nI_add]; exact zz_ixn (n := c + n) (by omega)
theorem mi2 {a b : Nat} (ha : a < 1000) (hb : b < 100000) (c d : Nat) (hc : c ≤ 100000) (hd : d ≤ 1000) : zz_ix (OfNat.ofNat c + OfNat.ofNat d * nI a + nI b) = OfNat.ofNat c + OfNat.ofNat d * a + b := by
  have h1 : d * a ≤ 1000 * 1000 := Nat.mul_le_mul hd (by omega)
  rw [ni_lit, ni_lit, ni_mul, nI_add, nI_add]; exact zz_ixn (n := c + d * a + b) (by omega)
theorem mi3 {a b w : Nat} (ha : a < 1000) (hb : b < 10000) (hw : w < 10000) (c d e : Nat) (hc : c ≤ 100000) (hd : d ≤ 100) (he : e ≤ 100) : zz_ix (OfNat.ofNat c + OfNat.ofNat d * (OfNat.ofNat e * nI a + nI b) + nI w) = OfNat.ofNat c + OfNat.ofNat d * (OfNat.ofNat e * a + b) + w := by
  have h1 : e * a ≤ 100 * 1000 := Nat.mul_le_mul he (by omega)
  have h2 : d * (e * a + b) ≤ 100 * 110000 := Nat.mul_le_mul hd (by omega)
  rw [ni_lit, ni_lit, ni_lit, ni_mul, nI_add, ni_mul, nI_add, nI_add]; exact zz_ixn (n := c + d * (e * a + b) + w) (by omega)
theorem vi0 {c N : Nat} (h : Nat.blt c N = true) (hN : N ≤ 100000) : vp_in (OfNat.ofNat c) N := by
  have h := Nat.blt_eq.mp h
  rw [ni_lit]; exact ni_in (n := c) h hN
theorem vi1 {c n N : Nat} (h : OfNat.ofNat c + n < N) (hN : N ≤ 100000) : vp_in (OfNat.ofNat c + nI n) N := by
  rw [ni_lit, nI_add]; exact ni_in h hN
theorem vi2 {c d a b N : Nat} (h : OfNat.ofNat c + OfNat.ofNat d * a + b < N) (hN : N ≤ 100000) : vp_in (OfNat.ofNat c + OfNat.ofNat d * nI a + nI b) N := by
  rw [ni_lit, ni_lit, ni_mul, nI_add, nI_add]; exact ni_in h hN
theorem vi3 {c d e a b w N : Nat} (h : OfNat.ofNat c + OfNat.ofNat d * (OfNat.ofNat e * a + b) + w < N) (hN : N ≤ 100000) : vp_in (OfNat.ofNat c + OfNat.ofNat d * (OfNat.ofNat e * nI a + nI b) + nI w) N := by
  rw [ni_lit, ni_lit, ni_lit, ni_mul, nI_add, ni_mul, nI_add, nI_add]; exact ni_in h hN
def m_rd (M : zM) (s : Nat) : Int32 := q M 0 + q M (1 + s)
def m_ea (M : zM) (s : Nat) : Int32 := m_rd M s - M.1 (6, 0, 0) 3
def m_la (M : zM) (s : Nat) : Int32 := m_rd M s + M.1 (6, 0, 0) 3
def m_ru (M : zM) (s : Nat) : Bool := decide (q M (6 + s) = 0)
def m_re (M : zM) (a b : Nat) : Bool := m_ru M a && (m_ru M b && (decide (a = b) || decide (q M (11 + 5 * a + b) = 1)))
def m_ha (M : zM) (s : Nat) : Bool := m_ru M s && (decide (0 < q M (61 + s)) && decide (m_la M s < q M (66 + s)))
def m_pt (M : zM) (s i w : Nat) : Int32 := q M (476 + 4 * (40 * s + i) + w)
def m_lt (M : zM) (s : Nat) : Int32 := if q M (51 + s) = 0 then 0 else m_pt M s (mn M (51 + s) - 1) 0
def m_ir (M : zM) (s v : Nat) : Bool := decide (m_lt M v < m_lt M s) || (decide (m_lt M s = m_lt M v) && decide (¬ q M (51 + s) < q M (51 + v)))
def m_ip (M : zM) (s v : Nat) : Bool := decide (¬ q M (41 + v) = -1000) && (decide (¬ q M (41 + v) = nI s) && decide (m_ea M v < q M (46 + v)))
def m_at (M : zM) (s v : Nat) (t : Int32) : Int32 := if m_re M s v = false then 1 else if ¬ v = s ∧ ¬ q M (36 + v) < t then 2 else if m_ip M s v = true then 3 else if m_ir M s v = true then 0 else 4
def m_ar (M : zM) (s v : Nat) (t : Int32) : Int32 := if m_re M s v = false then 1 else if t < q M (36 + v) then 2 else if m_ip M s v = true then 3 else if q M (41 + v) = nI s ∨ m_ir M s v = true then 0 else 4
/-- the places of the row of numbers that hold sizes -/
def mwi (i : Nat) : Prop := (51 ≤ i ∧ i < 61) ∨ (71 ≤ i ∧ i < 76) ∨ i = 1436 ∨ i = 1437 ∨ i = 1647
def mwb (i : Nat) : Nat := if i = 1437 then 50 else if i = 1647 then 20 else 40
def mw (M : zM) : Prop := ∀ i, mwi i → M.1 (20, 0, 0) i = nI (mn M i) ∧ mn M i ≤ mwb i
theorem mwb40 {i : Nat} (h : ¬ i = 1437) : mwb i ≤ 40 := by
  unfold mwb; rw [if_neg h]; split <;> decide
theorem mwb50 (i : Nat) : mwb i ≤ 50 := by
  unfold mwb; split
  · decide
  · split <;> decide
theorem mw_len {M : zM} {s : Nat} (h : mw M) (hs : s < 5) : M.1 (20, 0, 0) (51 + s) = nI (mn M (51 + s)) ∧ mn M (51 + s) ≤ 40 :=
  ⟨(h _ (by unfold mwi; omega)).1, Nat.le_trans (h _ (by unfold mwi; omega)).2 (mwb40 (by omega))⟩
theorem mw_done {M : zM} {s : Nat} (h : mw M) (hs : s < 5) : M.1 (20, 0, 0) (56 + s) = nI (mn M (56 + s)) ∧ mn M (56 + s) ≤ 40 :=
  ⟨(h _ (by unfold mwi; omega)).1, Nat.le_trans (h _ (by unfold mwi; omega)).2 (mwb40 (by omega))⟩
theorem mw_due {M : zM} {s : Nat} (h : mw M) (hs : s < 5) : M.1 (20, 0, 0) (71 + s) = nI (mn M (71 + s)) ∧ mn M (71 + s) ≤ 40 :=
  ⟨(h _ (by unfold mwi; omega)).1, Nat.le_trans (h _ (by unfold mwi; omega)).2 (mwb40 (by omega))⟩
theorem mw_hist {M : zM} (h : mw M) : M.1 (20, 0, 0) 1436 = nI (mn M 1436) ∧ mn M 1436 ≤ 40 := h 1436 (by unfold mwi; omega)
theorem mw_kept {M : zM} (h : mw M) : M.1 (20, 0, 0) 1437 = nI (mn M 1437) ∧ mn M 1437 ≤ 50 := h 1437 (by unfold mwi; omega)
theorem mw_sent {M : zM} (h : mw M) : M.1 (20, 0, 0) 1647 = nI (mn M 1647) ∧ mn M 1647 ≤ 20 := h 1647 (by unfold mwi; omega)
theorem qg (M : zM) (i j : Nat) (v : Int32) : (zz_set M (20, 0, 0) i v).1 (20, 0, 0) j = if j = i then v else M.1 (20, 0, 0) j := by rw [zz_gs]; simp
theorem qgc (M : zM) (sp dp n j : Nat) : (zz_cpy M (20, 0, 0) (20, 0, 0) sp dp n).1 (20, 0, 0) j = if dp ≤ j ∧ j < dp + n then M.1 (20, 0, 0) (sp + (j - dp)) else M.1 (20, 0, 0) j := by rw [zz_gc, if_pos rfl]; rfl
theorem mw_of {M M' : zM} (hm : mw M) (h : ∀ i, mwi i → M'.1 (20, 0, 0) i = M.1 (20, 0, 0) i ∨ ∃ x, x ≤ mwb i ∧ M'.1 (20, 0, 0) i = nI x) : mw M' := by
  intro i hi
  have hb := mwb50 i
  rcases h i hi with e | ⟨x, hx, e⟩
  · unfold mn q; rw [e]; exact hm i hi
  · unfold mn q; rw [e, zz_ixn (by omega)]; exact ⟨rfl, hx⟩
theorem mw_set {M : zM} {i : Nat} {v : Int32} (hi : ¬ mwi i) (hm : mw M) : mw (qs M i v) :=
  mw_of hm (fun j hj => Or.inl (by
    have hne : ¬ j = i := fun e => hi (by rw [← e]; exact hj)
    rw [qg, if_neg hne]))
theorem mw_sz {M : zM} {i x : Nat} (hx : x ≤ mwb i) (hm : mw M) : mw (qs M i (nI x)) :=
  mw_of hm (fun j hj => by
    by_cases e : j = i
    · exact Or.inr ⟨x, e ▸ hx, by rw [qg, if_pos e]⟩
    · exact Or.inl (by rw [qg, if_neg e]))
theorem mw_cpy {M : zM} {sp dp n : Nat} (hd : ∀ i, mwi i → ¬ (dp ≤ i ∧ i < dp + n)) (hm : mw M) : mw (zz_cpy M (20, 0, 0) (20, 0, 0) sp dp n) :=
  mw_of hm (fun j hj => Or.inl (by rw [qgc, if_neg (hd j hj)]))
theorem mw_oth {M : zM} {r : zR} {i : Nat} {v : Int32} (hr : ¬ (20, 0, 0) = r) (hm : mw M) : mw (zz_set M r i v) :=
  mw_of hm (fun j hj => Or.inl (by rw [zz_gs, if_neg (fun e => hr e.1)]))
theorem sp_Mo_in {G : zG} {post : Option zV → zM → Prop} {M : zM} {x a b : Int32} (hG : zz_go G) (h : post (some (.inl (zz_bi (!decide (x < a) && !decide (b < x))))) M) : zz_T G md_Mo_in [.inl x, .inl a, .inl b] M post := by
  refine en_Mo_in hG rfl (fun Z ok => ?_)
  refine zz_b ok rfl trivial rfl (fun h2 => ?_) (fun h2 => ?_)
  · skip
    refine zz_z ok rfl trivial rfl rfl (by first | exact Or.inl rfl | exact Or.inr rfl | exact zz_bi01 _) ?_
    exact zz_pq h (by simp [h2, zz_bi]) rfl
  · skip
    refine zz_b ok rfl trivial rfl (fun h7 => ?_) (fun h7 => ?_)
    · skip
      refine zz_z ok rfl trivial rfl rfl (by first | exact Or.inl rfl | exact Or.inr rfl | exact zz_bi01 _) ?_
      exact zz_pq h (by simp [h2, h7, zz_bi]) rfl
    · skip
      refine zz_z ok rfl trivial rfl rfl (by first | exact Or.inl rfl | exact Or.inr rfl | exact zz_bi01 _) ?_
      exact zz_pq h (by simp [h2, h7, zz_bi]) rfl
theorem sp_Mo_isServer {G : zG} {post : Option zV → zM → Prop} {M : zM} {x : Int32} (hG : zz_go G) (h : post (some (.inl (zz_bi (!decide (x < 0) && !decide (4 < x))))) M) : zz_T G md_Mo_isServer [.inl x] M post := by
  refine en_Mo_isServer hG rfl (fun Z ok => ?_)
  refine zz_cS ok rfl trivial rfl lk_Mo_32 ca_Mo_in rfl rfl rfl (sp_Mo_in hG ?_)
  refine zz_z ok rfl trivial rfl rfl (by first | exact Or.inl rfl | exact Or.inr rfl | exact zz_bi01 _) ?_
  exact h
theorem sp_Mo_reading {G : zG} {post : Option zV → zM → Prop} {M : zM} {s : Nat} {a : Int32} (hG : zz_go G) (ea : a = nI s) (hs : s < 5) (h : post (some (.inl (m_rd M s))) M) : zz_T G md_Mo_reading [.inr (.inr (6, 0, 0)), .inl a] M post := by
  refine en_Mo_reading hG rfl (fun Z ok => ?_)
  subst ea
  refine zz_i ok rfl (by and_intros <;> first | trivial | exact vi0 (by decide) (by decide) | exact vi1 (by omega) (by decide) | exact vi2 (by omega) (by decide) | exact vi3 (by omega) (by decide)) rfl rfl ?_
  exact zz_pq h (by simp +decide only [mi0, mi1 (n := s) (by omega)]; rfl) rfl
theorem sp_Mo_earliest {G : zG} {post : Option zV → zM → Prop} {M : zM} {s : Nat} {a : Int32} (hG : zz_go G) (ea : a = nI s) (hs : s < 5) (h : post (some (.inl (m_ea M s))) M) : zz_T G md_Mo_earliest [.inr (.inr (6, 0, 0)), .inl a] M post := by
  refine en_Mo_earliest hG rfl (fun Z ok => ?_)
  subst ea
  refine zz_cV ok rfl trivial rfl lk_Mo_36 ca_Mo_reading rfl rfl rfl rfl rfl (sp_Mo_reading hG rfl hs ?_)
  refine zz_i ok rfl trivial rfl rfl ?_
  exact h
theorem sp_Mo_latest {G : zG} {post : Option zV → zM → Prop} {M : zM} {s : Nat} {a : Int32} (hG : zz_go G) (ea : a = nI s) (hs : s < 5) (h : post (some (.inl (m_la M s))) M) : zz_T G md_Mo_latest [.inr (.inr (6, 0, 0)), .inl a] M post := by
  refine en_Mo_latest hG rfl (fun Z ok => ?_)
  subst ea
  refine zz_cV ok rfl trivial rfl lk_Mo_36 ca_Mo_reading rfl rfl rfl rfl rfl (sp_Mo_reading hG rfl hs ?_)
  refine zz_i ok rfl trivial rfl rfl ?_
  exact h
theorem sp_Mo_runs {G : zG} {post : Option zV → zM → Prop} {M : zM} {s : Nat} {a : Int32} (hG : zz_go G) (ea : a = nI s) (hs : s < 5) (h : post (some (.inl (zz_bi (m_ru M s)))) M) : zz_T G md_Mo_runs [.inr (.inr (6, 0, 0)), .inl a] M post := by
  refine en_Mo_runs hG rfl (fun Z ok => ?_)
  subst ea
  refine zz_b ok rfl (by and_intros <;> first | trivial | exact vi0 (by decide) (by decide) | exact vi1 (by omega) (by decide) | exact vi2 (by omega) (by decide) | exact vi3 (by omega) (by decide)) rfl (fun h9 => ?_) (fun h9 => ?_)
  · skip
    try simp +decide only [mi0, mi1 (n := s) (by omega)] at h9 ⊢
    refine zz_z ok rfl trivial rfl rfl (by first | exact Or.inl rfl | exact Or.inr rfl | exact zz_bi01 _) ?_
    exact zz_pq h (by simp [m_ru, zz_bi, h9]) rfl
  · skip
    try simp +decide only [mi0, mi1 (n := s) (by omega)] at h9 ⊢
    refine zz_z ok rfl trivial rfl rfl (by first | exact Or.inl rfl | exact Or.inr rfl | exact zz_bi01 _) ?_
    exact zz_pq h (by simp [m_ru, zz_bi, h9]) rfl
theorem sp_Mo_reaches {G : zG} {post : Option zV → zM → Prop} {M : zM} {s v : Nat} {a b : Int32} (hG : zz_go G) (ea : a = nI s) (hs : s < 5) (eb : b = nI v) (hv : v < 5) (h : post (some (.inl (zz_bi (m_re M s v)))) M) : zz_T G md_Mo_reaches [.inr (.inr (6, 0, 0)), .inl a, .inl b] M post := by
  refine en_Mo_reaches hG rfl (fun Z ok => ?_)
  subst ea; subst eb
  refine zz_cV ok rfl trivial rfl lk_Mo_40 ca_Mo_runs rfl rfl rfl rfl rfl (sp_Mo_runs hG rfl hs ?_)
  try simp +decide only [mi0, mi1 (n := s) (by omega), mi1 (n := v) (by omega), mi2 (a := s) (b := v) (by omega) (by omega), mi2 (a := v) (b := s) (by omega) (by omega)]
  refine zz_b ok rfl trivial rfl (fun h5 => ?_) (fun h5 => ?_)
  · skip
    try simp +decide only [mi0, mi1 (n := s) (by omega), mi1 (n := v) (by omega), mi2 (a := s) (b := v) (by omega) (by omega), mi2 (a := v) (b := s) (by omega) (by omega)] at h5 ⊢
    simp only [zz_bi0, Bool.not_eq_false] at h5
    refine zz_z ok rfl trivial rfl rfl (by first | exact Or.inl rfl | exact Or.inr rfl | exact zz_bi01 _) ?_
    exact zz_pq h (by simp [m_re, zz_bi, h5]) rfl
  · skip
    try simp +decide only [mi0, mi1 (n := s) (by omega), mi1 (n := v) (by omega), mi2 (a := s) (b := v) (by omega) (by omega), mi2 (a := v) (b := s) (by omega) (by omega)] at h5 ⊢
    simp only [zz_bi0, Bool.not_eq_false] at h5
    refine zz_cV ok rfl trivial rfl lk_Mo_40 ca_Mo_runs rfl rfl rfl rfl rfl (sp_Mo_runs hG rfl hv ?_)
    try simp +decide only [mi0, mi1 (n := s) (by omega), mi1 (n := v) (by omega), mi2 (a := s) (b := v) (by omega) (by omega), mi2 (a := v) (b := s) (by omega) (by omega)]
    refine zz_b ok rfl trivial rfl (fun h13 => ?_) (fun h13 => ?_)
    · skip
      try simp +decide only [mi0, mi1 (n := s) (by omega), mi1 (n := v) (by omega), mi2 (a := s) (b := v) (by omega) (by omega), mi2 (a := v) (b := s) (by omega) (by omega)] at h13 ⊢
      simp only [zz_bi0, Bool.not_eq_false] at h13
      refine zz_z ok rfl trivial rfl rfl (by first | exact Or.inl rfl | exact Or.inr rfl | exact zz_bi01 _) ?_
      exact zz_pq h (by simp [m_re, zz_bi, h5, h13]) rfl
    · skip
      try simp +decide only [mi0, mi1 (n := s) (by omega), mi1 (n := v) (by omega), mi2 (a := s) (b := v) (by omega) (by omega), mi2 (a := v) (b := s) (by omega) (by omega)] at h13 ⊢
      simp only [zz_bi0, Bool.not_eq_false] at h13
      refine zz_b ok rfl trivial rfl (fun h18 => ?_) (fun h18 => ?_)
      · skip
        try simp +decide only [mi0, mi1 (n := s) (by omega), mi1 (n := v) (by omega), mi2 (a := s) (b := v) (by omega) (by omega), mi2 (a := v) (b := s) (by omega) (by omega)] at h18 ⊢
        rw [ni_eqn (by omega) (by omega)] at h18
        refine zz_z ok rfl trivial rfl rfl (by first | exact Or.inl rfl | exact Or.inr rfl | exact zz_bi01 _) ?_
        exact zz_pq h (by simp [m_re, zz_bi, h5, h13, h18]) rfl
      · skip
        try simp +decide only [mi0, mi1 (n := s) (by omega), mi1 (n := v) (by omega), mi2 (a := s) (b := v) (by omega) (by omega), mi2 (a := v) (b := s) (by omega) (by omega)] at h18 ⊢
        rw [ni_eqn (by omega) (by omega)] at h18
        refine zz_b ok rfl (by and_intros <;> first | trivial | exact vi0 (by decide) (by decide) | exact vi1 (by omega) (by decide) | exact vi2 (by omega) (by decide) | exact vi3 (by omega) (by decide)) rfl (fun h35 => ?_) (fun h35 => ?_)
        · skip
          try simp +decide only [mi0, mi1 (n := s) (by omega), mi1 (n := v) (by omega), mi2 (a := s) (b := v) (by omega) (by omega), mi2 (a := v) (b := s) (by omega) (by omega)] at h35 ⊢
          refine zz_z ok rfl trivial rfl rfl (by first | exact Or.inl rfl | exact Or.inr rfl | exact zz_bi01 _) ?_
          exact zz_pq h (by simp [m_re, zz_bi, h5, h13, h18, h35]) rfl
        · skip
          try simp +decide only [mi0, mi1 (n := s) (by omega), mi1 (n := v) (by omega), mi2 (a := s) (b := v) (by omega) (by omega), mi2 (a := v) (b := s) (by omega) (by omega)] at h35 ⊢
          refine zz_z ok rfl trivial rfl rfl (by first | exact Or.inl rfl | exact Or.inr rfl | exact zz_bi01 _) ?_
          exact zz_pq h (by simp [m_re, zz_bi, h5, h13, h18, h35]) rfl
theorem sp_Mo_hasIt {G : zG} {post : Option zV → zM → Prop} {M : zM} {s : Nat} {a : Int32} (hG : zz_go G) (ea : a = nI s) (hs : s < 5) (h : post (some (.inl (zz_bi (m_ha M s)))) M) : zz_T G md_Mo_hasIt [.inr (.inr (6, 0, 0)), .inl a] M post := by
  refine en_Mo_hasIt hG rfl (fun Z ok => ?_)
  subst ea
  refine zz_cV ok rfl trivial rfl lk_Mo_40 ca_Mo_runs rfl rfl rfl rfl rfl (sp_Mo_runs hG rfl hs ?_)
  try simp +decide only [mi0, mi1 (n := s) (by omega)]
  refine zz_b ok rfl trivial rfl (fun h5 => ?_) (fun h5 => ?_)
  · skip
    try simp +decide only [mi0, mi1 (n := s) (by omega)] at h5 ⊢
    simp only [zz_bi0, Bool.not_eq_false] at h5
    refine zz_z ok rfl trivial rfl rfl (by first | exact Or.inl rfl | exact Or.inr rfl | exact zz_bi01 _) ?_
    exact zz_pq h (by simp [m_ha, zz_bi, h5]) rfl
  · skip
    try simp +decide only [mi0, mi1 (n := s) (by omega)] at h5 ⊢
    simp only [zz_bi0, Bool.not_eq_false] at h5
    refine zz_b ok rfl (by and_intros <;> first | trivial | exact vi0 (by decide) (by decide) | exact vi1 (by omega) (by decide) | exact vi2 (by omega) (by decide) | exact vi3 (by omega) (by decide)) rfl (fun h17 => ?_) (fun h17 => ?_)
    · skip
      try simp +decide only [mi0, mi1 (n := s) (by omega)] at h17 ⊢
      refine zz_cV ok rfl trivial rfl lk_Mo_44 ca_Mo_latest rfl rfl rfl rfl rfl (sp_Mo_latest hG rfl hs ?_)
      try simp +decide only [mi0, mi1 (n := s) (by omega)]
      refine zz_b ok rfl (by and_intros <;> first | trivial | exact vi0 (by decide) (by decide) | exact vi1 (by omega) (by decide) | exact vi2 (by omega) (by decide) | exact vi3 (by omega) (by decide)) rfl (fun h34 => ?_) (fun h34 => ?_)
      · skip
        try simp +decide only [mi0, mi1 (n := s) (by omega)] at h34 ⊢
        refine zz_z ok rfl trivial rfl rfl (by first | exact Or.inl rfl | exact Or.inr rfl | exact zz_bi01 _) ?_
        exact zz_pq h (by simp [m_ha, zz_bi, h5, h17, h34]) rfl
      · skip
        try simp +decide only [mi0, mi1 (n := s) (by omega)] at h34 ⊢
        refine zz_z ok rfl trivial rfl rfl (by first | exact Or.inl rfl | exact Or.inr rfl | exact zz_bi01 _) ?_
        exact zz_pq h (by simp [m_ha, zz_bi, h5, h17, h34]) rfl
    · skip
      try simp +decide only [mi0, mi1 (n := s) (by omega)] at h17 ⊢
      refine zz_z ok rfl trivial rfl rfl (by first | exact Or.inl rfl | exact Or.inr rfl | exact zz_bi01 _) ?_
      exact zz_pq h (by simp [m_ha, zz_bi, h5, h17]) rfl
theorem sp_Mo_part {G : zG} {post : Option zV → zM → Prop} {M : zM} {s i w : Nat} {a b c : Int32} (hG : zz_go G) (ea : a = nI s) (hs : s < 5) (eb : b = nI i) (hi : i < 40) (ec : c = nI w) (hw : w < 4) (h : post (some (.inl (m_pt M s i w))) M) : zz_T G md_Mo_part [.inr (.inr (6, 0, 0)), .inl a, .inl b, .inl c] M post := by
  refine en_Mo_part hG rfl (fun Z ok => ?_)
  subst ea; subst eb; subst ec
  refine zz_i ok rfl (by and_intros <;> first | trivial | exact vi0 (by decide) (by decide) | exact vi1 (by omega) (by decide) | exact vi2 (by omega) (by decide) | exact vi3 (by omega) (by decide)) rfl rfl ?_
  exact zz_pq h (by simp +decide only [mi3 (a := s) (b := i) (w := w) (by omega) (by omega) (by omega)]; rfl) rfl
theorem sp_Mo_lastTerm {G : zG} {post : Option zV → zM → Prop} {M : zM} {s : Nat} {a : Int32} (hm : mw M) (hG : zz_go G) (ea : a = nI s) (hs : s < 5) (h : post (some (.inl (m_lt M s))) M) : zz_T G md_Mo_lastTerm [.inr (.inr (6, 0, 0)), .inl a] M post := by
  refine en_Mo_lastTerm hG rfl (fun Z ok => ?_)
  subst ea
  have hn := mw_len hm hs
  refine zz_b ok rfl (by and_intros <;> first | trivial | exact vi0 (by decide) (by decide) | exact vi1 (by omega) (by decide) | exact vi2 (by omega) (by decide) | exact vi3 (by omega) (by decide)) rfl (fun h11 => ?_) (fun h11 => ?_)
  · skip
    try simp +decide only [mi0, mi1 (n := s) (by omega)] at h11 ⊢
    skip
    refine zz_i ok rfl trivial rfl rfl ?_
    exact zz_pq h (by simp [m_lt, h11]) rfl
  · skip
    try simp +decide only [mi0, mi1 (n := s) (by omega)] at h11 ⊢
    have hn0 : ¬ mn M (51 + s) = 0 := by
      intro e; rw [e] at hn; exact h11 hn.1
    refine zz_cV ok rfl trivial rfl lk_Mo_47 ca_Mo_part rfl rfl rfl rfl rfl (sp_Mo_part (i := mn M (51 + s) - 1) (w := 0) hG rfl hs (by rw [hn.1, ni_lit, ni_subn (by omega)]) (by omega) rfl (by decide) ?_)
    try simp +decide only [mi0, mi1 (n := s) (by omega)]
    refine zz_i ok rfl trivial rfl rfl ?_
    exact zz_pq h (by simp [m_lt, h11]) rfl
theorem sp_Mo_isRecent {G : zG} {post : Option zV → zM → Prop} {M : zM} {s v : Nat} {a b : Int32} (hm : mw M) (hG : zz_go G) (ea : a = nI s) (hs : s < 5) (eb : b = nI v) (hv : v < 5) (h : post (some (.inl (zz_bi (m_ir M s v)))) M) : zz_T G md_Mo_isRecent [.inr (.inr (6, 0, 0)), .inl a, .inl b] M post := by
  refine en_Mo_isRecent hG rfl (fun Z ok => ?_)
  subst ea; subst eb
  refine zz_cV ok rfl trivial rfl lk_Mo_51 ca_Mo_lastTerm rfl rfl rfl rfl rfl (sp_Mo_lastTerm hm hG rfl hs ?_)
  try simp +decide only [mi0, mi1 (n := s) (by omega), mi1 (n := v) (by omega), mi2 (a := s) (b := v) (by omega) (by omega), mi2 (a := v) (b := s) (by omega) (by omega)]
  refine zz_cV ok rfl trivial rfl lk_Mo_51 ca_Mo_lastTerm rfl rfl rfl rfl rfl (sp_Mo_lastTerm hm hG rfl hv ?_)
  try simp +decide only [mi0, mi1 (n := s) (by omega), mi1 (n := v) (by omega), mi2 (a := s) (b := v) (by omega) (by omega), mi2 (a := v) (b := s) (by omega) (by omega)]
  refine zz_b ok rfl trivial rfl (fun h16 => ?_) (fun h16 => ?_)
  · skip
    try simp +decide only [mi0, mi1 (n := s) (by omega), mi1 (n := v) (by omega), mi2 (a := s) (b := v) (by omega) (by omega), mi2 (a := v) (b := s) (by omega) (by omega)] at h16 ⊢
    refine zz_z ok rfl trivial rfl rfl (by first | exact Or.inl rfl | exact Or.inr rfl | exact zz_bi01 _) ?_
    exact zz_pq h (by simp [m_ir, zz_bi, h16]) rfl
  · skip
    try simp +decide only [mi0, mi1 (n := s) (by omega), mi1 (n := v) (by omega), mi2 (a := s) (b := v) (by omega) (by omega), mi2 (a := v) (b := s) (by omega) (by omega)] at h16 ⊢
    refine zz_b ok rfl trivial rfl (fun h22 => ?_) (fun h22 => ?_)
    · skip
      try simp +decide only [mi0, mi1 (n := s) (by omega), mi1 (n := v) (by omega), mi2 (a := s) (b := v) (by omega) (by omega), mi2 (a := v) (b := s) (by omega) (by omega)] at h22 ⊢
      refine zz_b ok rfl (by and_intros <;> first | trivial | exact vi0 (by decide) (by decide) | exact vi1 (by omega) (by decide) | exact vi2 (by omega) (by decide) | exact vi3 (by omega) (by decide)) rfl (fun h43 => ?_) (fun h43 => ?_)
      · skip
        try simp +decide only [mi0, mi1 (n := s) (by omega), mi1 (n := v) (by omega), mi2 (a := s) (b := v) (by omega) (by omega), mi2 (a := v) (b := s) (by omega) (by omega)] at h43 ⊢
        refine zz_z ok rfl trivial rfl rfl (by first | exact Or.inl rfl | exact Or.inr rfl | exact zz_bi01 _) ?_
        exact zz_pq h (by simp [m_ir, zz_bi, h16, h22, h43]) rfl
      · skip
        try simp +decide only [mi0, mi1 (n := s) (by omega), mi1 (n := v) (by omega), mi2 (a := s) (b := v) (by omega) (by omega), mi2 (a := v) (b := s) (by omega) (by omega)] at h43 ⊢
        refine zz_z ok rfl trivial rfl rfl (by first | exact Or.inl rfl | exact Or.inr rfl | exact zz_bi01 _) ?_
        exact zz_pq h (by simp [m_ir, zz_bi, h16, h22, h43]) rfl
    · skip
      try simp +decide only [mi0, mi1 (n := s) (by omega), mi1 (n := v) (by omega), mi2 (a := s) (b := v) (by omega) (by omega), mi2 (a := v) (b := s) (by omega) (by omega)] at h22 ⊢
      refine zz_z ok rfl trivial rfl rfl (by first | exact Or.inl rfl | exact Or.inr rfl | exact zz_bi01 _) ?_
      exact zz_pq h (by simp [m_ir, zz_bi, h16, h22]) rfl
theorem sp_Mo_isPromised {G : zG} {post : Option zV → zM → Prop} {M : zM} {s v : Nat} {a b : Int32} (hG : zz_go G) (ea : a = nI s) (hs : s < 5) (eb : b = nI v) (hv : v < 5) (h : post (some (.inl (zz_bi (m_ip M s v)))) M) : zz_T G md_Mo_isPromised [.inr (.inr (6, 0, 0)), .inl a, .inl b] M post := by
  refine en_Mo_isPromised hG rfl (fun Z ok => ?_)
  subst ea; subst eb
  refine zz_b ok rfl (by and_intros <;> first | trivial | exact vi0 (by decide) (by decide) | exact vi1 (by omega) (by decide) | exact vi2 (by omega) (by decide) | exact vi3 (by omega) (by decide)) rfl (fun h12 => ?_) (fun h12 => ?_)
  · skip
    try simp +decide only [mi0, mi1 (n := s) (by omega), mi1 (n := v) (by omega), mi2 (a := s) (b := v) (by omega) (by omega), mi2 (a := v) (b := s) (by omega) (by omega)] at h12 ⊢
    refine zz_z ok rfl trivial rfl rfl (by first | exact Or.inl rfl | exact Or.inr rfl | exact zz_bi01 _) ?_
    exact zz_pq h (by simp [m_ip, zz_bi, h12]) rfl
  · skip
    try simp +decide only [mi0, mi1 (n := s) (by omega), mi1 (n := v) (by omega), mi2 (a := s) (b := v) (by omega) (by omega), mi2 (a := v) (b := s) (by omega) (by omega)] at h12 ⊢
    refine zz_b ok rfl (by and_intros <;> first | trivial | exact vi0 (by decide) (by decide) | exact vi1 (by omega) (by decide) | exact vi2 (by omega) (by decide) | exact vi3 (by omega) (by decide)) rfl (fun h25 => ?_) (fun h25 => ?_)
    · skip
      try simp +decide only [mi0, mi1 (n := s) (by omega), mi1 (n := v) (by omega), mi2 (a := s) (b := v) (by omega) (by omega), mi2 (a := v) (b := s) (by omega) (by omega)] at h25 ⊢
      refine zz_z ok rfl trivial rfl rfl (by first | exact Or.inl rfl | exact Or.inr rfl | exact zz_bi01 _) ?_
      exact zz_pq h (by simp [m_ip, zz_bi, h12, h25]) rfl
    · skip
      try simp +decide only [mi0, mi1 (n := s) (by omega), mi1 (n := v) (by omega), mi2 (a := s) (b := v) (by omega) (by omega), mi2 (a := v) (b := s) (by omega) (by omega)] at h25 ⊢
      refine zz_cV ok rfl trivial rfl lk_Mo_57 ca_Mo_earliest rfl rfl rfl rfl rfl (sp_Mo_earliest hG rfl hv ?_)
      try simp +decide only [mi0, mi1 (n := s) (by omega), mi1 (n := v) (by omega), mi2 (a := s) (b := v) (by omega) (by omega), mi2 (a := v) (b := s) (by omega) (by omega)]
      refine zz_b ok rfl (by and_intros <;> first | trivial | exact vi0 (by decide) (by decide) | exact vi1 (by omega) (by decide) | exact vi2 (by omega) (by decide) | exact vi3 (by omega) (by decide)) rfl (fun h42 => ?_) (fun h42 => ?_)
      · skip
        try simp +decide only [mi0, mi1 (n := s) (by omega), mi1 (n := v) (by omega), mi2 (a := s) (b := v) (by omega) (by omega), mi2 (a := v) (b := s) (by omega) (by omega)] at h42 ⊢
        refine zz_z ok rfl trivial rfl rfl (by first | exact Or.inl rfl | exact Or.inr rfl | exact zz_bi01 _) ?_
        exact zz_pq h (by simp [m_ip, zz_bi, h12, h25, h42]) rfl
      · skip
        try simp +decide only [mi0, mi1 (n := s) (by omega), mi1 (n := v) (by omega), mi2 (a := s) (b := v) (by omega) (by omega), mi2 (a := v) (b := s) (by omega) (by omega)] at h42 ⊢
        refine zz_z ok rfl trivial rfl rfl (by first | exact Or.inl rfl | exact Or.inr rfl | exact zz_bi01 _) ?_
        exact zz_pq h (by simp [m_ip, zz_bi, h12, h25, h42]) rfl
theorem sp_Mo_answerTo {G : zG} {post : Option zV → zM → Prop} {M : zM} {s v : Nat} {a b : Int32} {t : Int32} (hm : mw M) (hG : zz_go G) (ea : a = nI s) (hs : s < 5) (eb : b = nI v) (hv : v < 5) (h : post (some (.inl (m_at M s v t))) M) : zz_T G md_Mo_answerTo [.inr (.inr (6, 0, 0)), .inl a, .inl b, .inl t] M post := by
  refine en_Mo_answerTo hG rfl (fun Z ok => ?_)
  subst ea; subst eb
  refine zz_cV ok rfl trivial rfl lk_Mo_68 ca_Mo_reaches rfl rfl rfl rfl rfl (sp_Mo_reaches hG rfl hs rfl hv ?_)
  try simp +decide only [mi0, mi1 (n := s) (by omega), mi1 (n := v) (by omega), mi2 (a := s) (b := v) (by omega) (by omega), mi2 (a := v) (b := s) (by omega) (by omega)]
  refine zz_b ok rfl trivial rfl (fun h6 => ?_) (fun h6 => ?_)
  · skip
    try simp +decide only [mi0, mi1 (n := s) (by omega), mi1 (n := v) (by omega), mi2 (a := s) (b := v) (by omega) (by omega), mi2 (a := v) (b := s) (by omega) (by omega)] at h6 ⊢
    simp only [zz_bi0, Bool.not_eq_false] at h6
    refine zz_i ok rfl trivial rfl rfl ?_
    exact zz_pq h (by simp [m_at, h6]) rfl
  · skip
    try simp +decide only [mi0, mi1 (n := s) (by omega), mi1 (n := v) (by omega), mi2 (a := s) (b := v) (by omega) (by omega), mi2 (a := v) (b := s) (by omega) (by omega)] at h6 ⊢
    simp only [zz_bi0, Bool.not_eq_false] at h6
    refine zz_b ok rfl trivial rfl (fun h13 => ?_) (fun h13 => ?_)
    · skip
      try simp +decide only [mi0, mi1 (n := s) (by omega), mi1 (n := v) (by omega), mi2 (a := s) (b := v) (by omega) (by omega), mi2 (a := v) (b := s) (by omega) (by omega)] at h13 ⊢
      rw [ni_eqn (by omega) (by omega)] at h13
      subst h13
      have h13 := True.intro
      refine zz_cV ok rfl trivial rfl lk_Mo_72 ca_Mo_isPromised rfl rfl rfl rfl rfl (sp_Mo_isPromised hG rfl hs rfl hv ?_)
      try simp +decide only [mi0, mi1 (n := s) (by omega), mi1 (n := v) (by omega), mi2 (a := s) (b := v) (by omega) (by omega), mi2 (a := v) (b := s) (by omega) (by omega)]
      refine zz_b ok rfl trivial rfl (fun h37 => ?_) (fun h37 => ?_)
      · skip
        try simp +decide only [mi0, mi1 (n := s) (by omega), mi1 (n := v) (by omega), mi2 (a := s) (b := v) (by omega) (by omega), mi2 (a := v) (b := s) (by omega) (by omega)] at h37 ⊢
        simp only [zz_bi0, Bool.not_eq_false] at h37
        refine zz_cV ok rfl trivial rfl lk_Mo_75 ca_Mo_isRecent rfl rfl rfl rfl rfl (sp_Mo_isRecent hm hG rfl hs rfl hv ?_)
        try simp +decide only [mi0, mi1 (n := s) (by omega), mi1 (n := v) (by omega), mi2 (a := s) (b := v) (by omega) (by omega), mi2 (a := v) (b := s) (by omega) (by omega)]
        refine zz_b ok rfl trivial rfl (fun h50 => ?_) (fun h50 => ?_)
        · skip
          try simp +decide only [mi0, mi1 (n := s) (by omega), mi1 (n := v) (by omega), mi2 (a := s) (b := v) (by omega) (by omega), mi2 (a := v) (b := s) (by omega) (by omega)] at h50 ⊢
          simp only [zz_bi0, Bool.not_eq_false] at h50
          refine zz_i ok rfl trivial rfl rfl ?_
          exact zz_pq h (by simp [m_at, h6, h13, h37, h50]) rfl
        · skip
          try simp +decide only [mi0, mi1 (n := s) (by omega), mi1 (n := v) (by omega), mi2 (a := s) (b := v) (by omega) (by omega), mi2 (a := v) (b := s) (by omega) (by omega)] at h50 ⊢
          simp only [zz_bi0, Bool.not_eq_false] at h50
          refine zz_i ok rfl trivial rfl rfl ?_
          exact zz_pq h (by simp [m_at, h6, h13, h37, h50]) rfl
      · skip
        try simp +decide only [mi0, mi1 (n := s) (by omega), mi1 (n := v) (by omega), mi2 (a := s) (b := v) (by omega) (by omega), mi2 (a := v) (b := s) (by omega) (by omega)] at h37 ⊢
        simp only [zz_bi0, Bool.not_eq_false] at h37
        refine zz_i ok rfl trivial rfl rfl ?_
        exact zz_pq h (by simp [m_at, h6, h13, h37]) rfl
    · skip
      try simp +decide only [mi0, mi1 (n := s) (by omega), mi1 (n := v) (by omega), mi2 (a := s) (b := v) (by omega) (by omega), mi2 (a := v) (b := s) (by omega) (by omega)] at h13 ⊢
      rw [ni_eqn (by omega) (by omega)] at h13
      refine zz_b ok rfl (by and_intros <;> first | trivial | exact vi0 (by decide) (by decide) | exact vi1 (by omega) (by decide) | exact vi2 (by omega) (by decide) | exact vi3 (by omega) (by decide)) rfl (fun h26 => ?_) (fun h26 => ?_)
      · skip
        try simp +decide only [mi0, mi1 (n := s) (by omega), mi1 (n := v) (by omega), mi2 (a := s) (b := v) (by omega) (by omega), mi2 (a := v) (b := s) (by omega) (by omega)] at h26 ⊢
        refine zz_cV ok rfl trivial rfl lk_Mo_72 ca_Mo_isPromised rfl rfl rfl rfl rfl (sp_Mo_isPromised hG rfl hs rfl hv ?_)
        try simp +decide only [mi0, mi1 (n := s) (by omega), mi1 (n := v) (by omega), mi2 (a := s) (b := v) (by omega) (by omega), mi2 (a := v) (b := s) (by omega) (by omega)]
        refine zz_b ok rfl trivial rfl (fun h37 => ?_) (fun h37 => ?_)
        · skip
          try simp +decide only [mi0, mi1 (n := s) (by omega), mi1 (n := v) (by omega), mi2 (a := s) (b := v) (by omega) (by omega), mi2 (a := v) (b := s) (by omega) (by omega)] at h37 ⊢
          simp only [zz_bi0, Bool.not_eq_false] at h37
          refine zz_cV ok rfl trivial rfl lk_Mo_75 ca_Mo_isRecent rfl rfl rfl rfl rfl (sp_Mo_isRecent hm hG rfl hs rfl hv ?_)
          try simp +decide only [mi0, mi1 (n := s) (by omega), mi1 (n := v) (by omega), mi2 (a := s) (b := v) (by omega) (by omega), mi2 (a := v) (b := s) (by omega) (by omega)]
          refine zz_b ok rfl trivial rfl (fun h50 => ?_) (fun h50 => ?_)
          · skip
            try simp +decide only [mi0, mi1 (n := s) (by omega), mi1 (n := v) (by omega), mi2 (a := s) (b := v) (by omega) (by omega), mi2 (a := v) (b := s) (by omega) (by omega)] at h50 ⊢
            simp only [zz_bi0, Bool.not_eq_false] at h50
            refine zz_i ok rfl trivial rfl rfl ?_
            exact zz_pq h (by simp [m_at, h6, h13, h26, h37, h50]) rfl
          · skip
            try simp +decide only [mi0, mi1 (n := s) (by omega), mi1 (n := v) (by omega), mi2 (a := s) (b := v) (by omega) (by omega), mi2 (a := v) (b := s) (by omega) (by omega)] at h50 ⊢
            simp only [zz_bi0, Bool.not_eq_false] at h50
            refine zz_i ok rfl trivial rfl rfl ?_
            exact zz_pq h (by simp [m_at, h6, h13, h26, h37, h50]) rfl
        · skip
          try simp +decide only [mi0, mi1 (n := s) (by omega), mi1 (n := v) (by omega), mi2 (a := s) (b := v) (by omega) (by omega), mi2 (a := v) (b := s) (by omega) (by omega)] at h37 ⊢
          simp only [zz_bi0, Bool.not_eq_false] at h37
          refine zz_i ok rfl trivial rfl rfl ?_
          exact zz_pq h (by simp [m_at, h6, h13, h26, h37]) rfl
      · skip
        try simp +decide only [mi0, mi1 (n := s) (by omega), mi1 (n := v) (by omega), mi2 (a := s) (b := v) (by omega) (by omega), mi2 (a := v) (b := s) (by omega) (by omega)] at h26 ⊢
        refine zz_i ok rfl trivial rfl rfl ?_
        exact zz_pq h (by simp [m_at, h6, h13, h26]) rfl
theorem sp_Mo_answerToRenewal {G : zG} {post : Option zV → zM → Prop} {M : zM} {s v : Nat} {a b : Int32} {t : Int32} (hm : mw M) (hG : zz_go G) (ea : a = nI s) (hs : s < 5) (eb : b = nI v) (hv : v < 5) (h : post (some (.inl (m_ar M s v t))) M) : zz_T G md_Mo_answerToRenewal [.inr (.inr (6, 0, 0)), .inl a, .inl b, .inl t] M post := by
  refine en_Mo_answerToRenewal hG rfl (fun Z ok => ?_)
  subst ea; subst eb
  refine zz_cV ok rfl trivial rfl lk_Mo_68 ca_Mo_reaches rfl rfl rfl rfl rfl (sp_Mo_reaches hG rfl hs rfl hv ?_)
  try simp +decide only [mi0, mi1 (n := s) (by omega), mi1 (n := v) (by omega), mi2 (a := s) (b := v) (by omega) (by omega), mi2 (a := v) (b := s) (by omega) (by omega)]
  refine zz_b ok rfl trivial rfl (fun h6 => ?_) (fun h6 => ?_)
  · skip
    try simp +decide only [mi0, mi1 (n := s) (by omega), mi1 (n := v) (by omega), mi2 (a := s) (b := v) (by omega) (by omega), mi2 (a := v) (b := s) (by omega) (by omega)] at h6 ⊢
    simp only [zz_bi0, Bool.not_eq_false] at h6
    refine zz_i ok rfl trivial rfl rfl ?_
    exact zz_pq h (by simp [m_ar, h6]) rfl
  · skip
    try simp +decide only [mi0, mi1 (n := s) (by omega), mi1 (n := v) (by omega), mi2 (a := s) (b := v) (by omega) (by omega), mi2 (a := v) (b := s) (by omega) (by omega)] at h6 ⊢
    simp only [zz_bi0, Bool.not_eq_false] at h6
    refine zz_b ok rfl (by and_intros <;> first | trivial | exact vi0 (by decide) (by decide) | exact vi1 (by omega) (by decide) | exact vi2 (by omega) (by decide) | exact vi3 (by omega) (by decide)) rfl (fun h21 => ?_) (fun h21 => ?_)
    · skip
      try simp +decide only [mi0, mi1 (n := s) (by omega), mi1 (n := v) (by omega), mi2 (a := s) (b := v) (by omega) (by omega), mi2 (a := v) (b := s) (by omega) (by omega)] at h21 ⊢
      refine zz_i ok rfl trivial rfl rfl ?_
      exact zz_pq h (by simp [m_ar, h6, h21]) rfl
    · skip
      try simp +decide only [mi0, mi1 (n := s) (by omega), mi1 (n := v) (by omega), mi2 (a := s) (b := v) (by omega) (by omega), mi2 (a := v) (b := s) (by omega) (by omega)] at h21 ⊢
      refine zz_cV ok rfl trivial rfl lk_Mo_72 ca_Mo_isPromised rfl rfl rfl rfl rfl (sp_Mo_isPromised hG rfl hs rfl hv ?_)
      try simp +decide only [mi0, mi1 (n := s) (by omega), mi1 (n := v) (by omega), mi2 (a := s) (b := v) (by omega) (by omega), mi2 (a := v) (b := s) (by omega) (by omega)]
      refine zz_b ok rfl trivial rfl (fun h32 => ?_) (fun h32 => ?_)
      · skip
        try simp +decide only [mi0, mi1 (n := s) (by omega), mi1 (n := v) (by omega), mi2 (a := s) (b := v) (by omega) (by omega), mi2 (a := v) (b := s) (by omega) (by omega)] at h32 ⊢
        simp only [zz_bi0, Bool.not_eq_false] at h32
        refine zz_b ok rfl (by and_intros <;> first | trivial | exact vi0 (by decide) (by decide) | exact vi1 (by omega) (by decide) | exact vi2 (by omega) (by decide) | exact vi3 (by omega) (by decide)) rfl (fun h47 => ?_) (fun h47 => ?_)
        · skip
          try simp +decide only [mi0, mi1 (n := s) (by omega), mi1 (n := v) (by omega), mi2 (a := s) (b := v) (by omega) (by omega), mi2 (a := v) (b := s) (by omega) (by omega)] at h47 ⊢
          refine zz_i ok rfl trivial rfl rfl ?_
          exact zz_pq h (by simp [m_ar, h6, h21, h32, h47]) rfl
        · skip
          try simp +decide only [mi0, mi1 (n := s) (by omega), mi1 (n := v) (by omega), mi2 (a := s) (b := v) (by omega) (by omega), mi2 (a := v) (b := s) (by omega) (by omega)] at h47 ⊢
          refine zz_cV ok rfl trivial rfl lk_Mo_75 ca_Mo_isRecent rfl rfl rfl rfl rfl (sp_Mo_isRecent hm hG rfl hs rfl hv ?_)
          try simp +decide only [mi0, mi1 (n := s) (by omega), mi1 (n := v) (by omega), mi2 (a := s) (b := v) (by omega) (by omega), mi2 (a := v) (b := s) (by omega) (by omega)]
          refine zz_b ok rfl trivial rfl (fun h56 => ?_) (fun h56 => ?_)
          · skip
            try simp +decide only [mi0, mi1 (n := s) (by omega), mi1 (n := v) (by omega), mi2 (a := s) (b := v) (by omega) (by omega), mi2 (a := v) (b := s) (by omega) (by omega)] at h56 ⊢
            simp only [zz_bi0, Bool.not_eq_false] at h56
            refine zz_i ok rfl trivial rfl rfl ?_
            exact zz_pq h (by simp [m_ar, h6, h21, h32, h47, h56]) rfl
          · skip
            try simp +decide only [mi0, mi1 (n := s) (by omega), mi1 (n := v) (by omega), mi2 (a := s) (b := v) (by omega) (by omega), mi2 (a := v) (b := s) (by omega) (by omega)] at h56 ⊢
            simp only [zz_bi0, Bool.not_eq_false] at h56
            refine zz_i ok rfl trivial rfl rfl ?_
            exact zz_pq h (by simp [m_ar, h6, h21, h32, h47, h56]) rfl
      · skip
        try simp +decide only [mi0, mi1 (n := s) (by omega), mi1 (n := v) (by omega), mi2 (a := s) (b := v) (by omega) (by omega), mi2 (a := v) (b := s) (by omega) (by omega)] at h32 ⊢
        simp only [zz_bi0, Bool.not_eq_false] at h32
        refine zz_i ok rfl trivial rfl rfl ?_
        exact zz_pq h (by simp [m_ar, h6, h21, h32]) rfl
