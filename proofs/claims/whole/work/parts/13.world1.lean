def rn (M : zM) (w j : Nat) : Nat := zz_ix (M.1 (1, w, j) 1)
def cmn (M : zM) (w s : Nat) : Nat := zz_ix (M.1 (0, w, s) 1)
def wr (M : zM) (w : Nat) : Prop := ∀ j, j ≤ 12 → M.1 (1, w, j) 1 = nI (rn M w j) ∧ rn M w j * 4 ≤ zz_rl j
def c_rd (M : zM) (s : Nat) : Int32 := M.1 (4, 0, 0) 9 + M.1 (3, 0, s) 2
def c_ea (M : zM) (s : Nat) : Int32 := M.1 (4, 0, 0) 9 + M.1 (3, 0, s) 2 - M.1 (4, 0, 0) 0
def c_la (M : zM) (s : Nat) : Int32 := M.1 (4, 0, 0) 9 + M.1 (3, 0, s) 2 + M.1 (4, 0, 0) 0
def c_re (M : zM) (a b : Nat) : Bool := decide (M.1 (3, 0, a) 3 = 0) && (decide (M.1 (3, 0, b) 3 = 0) && (decide (a = b) || decide (M.1 (10, 0, 0) (5 * a + b) = 1)))
def c_ho (M : zM) (s : Nat) : Bool := decide (M.1 (3, 0, s) 3 = 0) && (decide (¬ M.1 (3, 0, s) 7 = -1000) && decide (c_la M s < M.1 (3, 0, s) 8))
def c_too (M : zM) (s v : Nat) (t : Int32) : Bool := decide (¬ v = s) && decide (¬ M.1 (3, 0, v) 4 < t)
def c_tb (M : zM) (s v : Nat) : Int32 := if M.1 (3, 0, v) 5 = -1000 ∨ M.1 (3, 0, v) 5 = nI s then 0 else (if 0 < M.1 (3, 0, v) 6 - c_ea M v then M.1 (3, 0, v) 6 - c_ea M v else 0)
def c_rec (M : zM) (s v : Nat) : Bool := lo_rec M 0 s (rn M 0 s) 0 v (rn M 0 v)
def c_an (M : zM) (s v : Nat) (tr lc : Bool) : Int32 := if c_re M s v = false then 1 else if tr = true then 2 else if 0 < c_tb M s v then 3 else if lc = true ∧ c_rec M s v = false then 4 else 0
def c_hs (M : zM) : Nat → Int32
  | 0 => 0
  | k + 1 => c_hs M k ||| (if c_ho M k = true then (1 : Int32) <<< (nI k &&& 31) else 0)
def c_rs (M : zM) : Nat → Int32
  | 0 => 0
  | k + 1 => c_rs M k ||| (if M.1 (3, 0, k) 3 = 0 then (1 : Int32) <<< (nI k &&& 31) else 0)
def c_li (M : zM) (a : Nat) : Nat → Int32 → Int32
  | 0, x => x
  | c + 1, x => c_li M a c x + M.1 (10, 0, 0) (5 * a + (a + 1 + c))
def c_lo (M : zM) : Nat → Int32
  | 0 => 0
  | a + 1 => c_li M a (4 - a) (c_lo M a)
def c_kg0 (M : zM) : zM := if zz_rl 11 < (rn M 0 11 + 1) * 4 then ro_drop M 0 11 (rn M 0 11) 1 else M
def c_kg (M : zM) (s e st : Int32) : zM :=
  zz_set (ro_add (c_kg0 M) 0 11 (rn (c_kg0 M) 0 11) s e st ((c_kg0 M).1 (4, 0, 0) 9)) (4, 0, 0) 10 ((ro_add (c_kg0 M) 0 11 (rn (c_kg0 M) 0 11) s e st ((c_kg0 M).1 (4, 0, 0) 9)).1 (4, 0, 0) 10 + 1)
def c_gl (s : Nat) : Nat → Nat → zM → zM × Nat
  | 0, d, M => (M, d)
  | f + 1, d, M => if M.1 (7, 0, 6 + s) (4 * d + 2) < c_ea M s then c_gl s f (d + 1) (c_kg M (nI s) (M.1 (7, 0, 6 + s) (4 * d + 1)) (M.1 (7, 0, 6 + s) (4 * d + 2))) else (M, d)
def c_gd (M : zM) (s : Nat) : zM := ro_drop (c_gl s (rn M 0 (6 + s)) 0 M).1 0 (6 + s) (rn M 0 (6 + s)) (c_gl s (rn M 0 (6 + s)) 0 M).2
def c_tk1 (k : Nat) (M : zM) : zM := if M.1 (3, 0, k) 3 = 0 then c_gd M k else M
def c_tk (M : zM) : zM := zz_it c_tk1 5 (zz_set M (4, 0, 0) 9 (M.1 (4, 0, 0) 9 + 1))
theorem wr_set {M : zM} {w k : Nat} {r : zR} {v : Int32} (hr : Nat.beq r.1 1 = false) (h : wr M w) : wr (zz_set M r k v) w := by
  intro j hj
  have e : (zz_set M r k v).1 (1, w, j) 1 = M.1 (1, w, j) 1 := by
    rw [zz_gs, if_neg]
    rintro ⟨rfl, -⟩
    exact absurd rfl (Nat.ne_of_beq_eq_false hr)
  unfold rn
  rw [e]
  exact h j hj
theorem wr_cpy {M : zM} {w sp dp n : Nat} {a0 a1 : zR} (hr : Nat.beq a1.1 1 = false) (h : wr M w) : wr (zz_cpy M a0 a1 sp dp n) w := by
  intro j hj
  have e : (zz_cpy M a0 a1 sp dp n).1 (1, w, j) 1 = M.1 (1, w, j) 1 := by
    rw [zz_gc, if_neg]
    rintro rfl
    exact absurd rfl (Nat.ne_of_beq_eq_false hr)
  unfold rn
  rw [e]
  exact h j hj
theorem rn_sz {M : zM} {w w2 j j2 n : Nat} (hn : n < 2147483648) : rn (zz_set M (1, w, j) 1 (nI n)) w2 j2 = if w2 = w ∧ j2 = j then n else rn M w2 j2 := by
  unfold rn
  rw [zz_gs]
  by_cases h : w2 = w ∧ j2 = j
  · rw [if_pos h, if_pos (by rw [h.1, h.2]; exact ⟨rfl, rfl⟩), zz_ixn hn]
  · rw [if_neg h, if_neg]
    rintro ⟨e, -⟩
    simp at e
    exact h e
theorem wr_sz {M : zM} {w w2 j n : Nat} (hn : n * 4 ≤ zz_rl j) (h : wr M w2) : wr (zz_set M (1, w, j) 1 (nI n)) w2 := by
  have hj0 := zz_rl_le j
  intro j2 hj
  rw [rn_sz (by omega), zz_gs]
  by_cases e : w2 = w ∧ j2 = j
  · rw [if_pos e, if_pos (by rw [e.1, e.2]; exact ⟨rfl, rfl⟩)]
    exact ⟨rfl, by rw [e.2]; exact hn⟩
  · rw [if_neg e, if_neg]
    · exact h j2 hj
    · rintro ⟨q, -⟩
      simp at q
      exact e q
theorem wr_add {M : zM} {w j n : Nat} {w2 : Nat} {a b c d : Int32} (h : wr M w2) : wr (ro_add M w j n a b c d) w2 := by
  unfold ro_add
  split
  · exact h
  · exact wr_sz (by omega) (wr_set rfl (wr_set rfl (wr_set rfl (wr_set rfl h))))
theorem wr_drop {M : zM} {w j n k w2 : Nat} (hn : n * 4 ≤ zz_rl j) (h : wr M w2) : wr (ro_drop M w j n k) w2 := by
  unfold ro_drop
  split
  · exact h
  · exact wr_sz (by omega) (wr_cpy rfl h)
theorem wr_copy {M : zM} {w j wb jb n w2 : Nat} (hn : n * 4 ≤ zz_rl j) (h : wr M w2) : wr (ro_copy M w j wb jb n) w2 := wr_sz hn (wr_cpy rfl h)
theorem c_kg0_wr {M : zM} (h : wr M 0) : wr (c_kg0 M) 0 := by
  unfold c_kg0
  split
  · exact wr_drop (h 11 (by decide)).2 h
  · exact h
theorem c_kg_wr {M : zM} {s e st : Int32} (h : wr M 0) : wr (c_kg M s e st) 0 := wr_set rfl (wr_add (c_kg0_wr h))
theorem c_kg_own {M : zM} {j i : Nat} {s e st : Int32} (hj : ¬ j = 11) : (c_kg M s e st).1 (7, 0, j) i = M.1 (7, 0, j) i := by
  unfold c_kg
  rw [zz_gs, if_neg (by simp)]
  have h1 : (c_kg0 M).1 (7, 0, j) i = M.1 (7, 0, j) i := by
    unfold c_kg0 ro_drop
    split
    · split
      · rfl
      · simp [zz_gs, zz_gc, hj]
    · rfl
  unfold ro_add
  split
  · exact h1
  · simp [zz_gs, hj, h1]
theorem c_kg_sz {M : zM} {j : Nat} {s e st : Int32} (hj : ¬ j = 11) : (c_kg M s e st).1 (1, 0, j) 1 = M.1 (1, 0, j) 1 := by
  unfold c_kg
  rw [zz_gs, if_neg (by simp)]
  have h1 : (c_kg0 M).1 (1, 0, j) 1 = M.1 (1, 0, j) 1 := by
    unfold c_kg0 ro_drop
    split
    · split
      · rfl
      · simp [zz_gs, zz_gc, hj]
    · rfl
  unfold ro_add
  split
  · exact h1
  · simp [zz_gs, hj, h1]
theorem c_gl_wr (s : Nat) : ∀ (f d : Nat) (M : zM), wr M 0 → wr (c_gl s f d M).1 0
  | 0, _, _, h => h
  | f + 1, d, M, h => by
    unfold c_gl
    split
    · exact c_gl_wr s f (d + 1) _ (c_kg_wr h)
    · exact h
theorem c_gl_sz (s : Nat) (hs : s < 5) : ∀ (f d : Nat) (M : zM) (j : Nat), ¬ j = 11 → (c_gl s f d M).1.1 (1, 0, j) 1 = M.1 (1, 0, j) 1
  | 0, _, _, _, _ => rfl
  | f + 1, d, M, j, hj => by
    unfold c_gl
    split
    · rw [c_gl_sz s hs f (d + 1) _ j hj, c_kg_sz hj]
    · rfl
theorem c_gd_wr {M : zM} {s : Nat} (hs : s < 5) (h : wr M 0) : wr (c_gd M s) 0 := wr_drop (h (6 + s) (by omega)).2 (c_gl_wr s _ _ _ h)
theorem c_tk1_wr {M : zM} {k : Nat} (hk : k < 5) (h : wr M 0) : wr (c_tk1 k M) 0 := by
  unfold c_tk1
  split
  · exact c_gd_wr hk h
  · exact h
theorem c_it_wr {f : Nat → zM → zM} {N : Nat} (hf : ∀ k M, k < N → wr M 0 → wr (f k M) 0) : ∀ (k : Nat) (M : zM), k ≤ N → wr M 0 → wr (zz_it f k M) 0
  | 0, _, _, h => h
  | k + 1, M, hk, h => hf k _ (by omega) (c_it_wr hf k M (by omega) h)
theorem ni_5 {s : Nat} (hs : s < 5) : vp_in (nI s) 5 := ni_in hs (by decide)
theorem ni_e5 {s : Nat} (hs : s < 5) : zz_ix (nI s) = s := zz_ixn (by omega)
theorem ni_25 {a b : Nat} (ha : a < 5) (hb : b < 5) : nI a * 5 + nI b = nI (5 * a + b) := by
  rw [ni_lit, ni_mul, nI_add]; congr 1; omega
theorem sp_Le_isWithin {G : zG} {post : Option zV → zM → Prop} {M : zM} {x a b : Int32} (hG : zz_go G) (h : post (some (.inl (zz_bi (!decide (x < a) && !decide (b < x))))) M) : zz_T G md_Le_isWithin [.inl x, .inl a, .inl b] M post := by
  refine en_Le_isWithin hG rfl (fun Z ok => ?_)
  refine zz_b ok rfl trivial rfl (fun h2 => ?_) (fun h2 => ?_)
  · skip
    refine zz_z ok rfl trivial rfl rfl (by first | exact Or.inl rfl | exact Or.inr rfl | exact zz_bi01 _) ?_
    exact zz_pq h (by simp [h2, zz_bi]) rfl
  · skip
    refine zz_b ok rfl trivial rfl (fun h7 => ?_) (fun h7 => ?_)
    · skip
      refine zz_z ok rfl trivial rfl rfl (by first | exact Or.inl rfl | exact Or.inr rfl | exact zz_bi01 _) ?_
      exact zz_pq h (by simp [h2, h7, zz_bi]) rfl
    · skip
      refine zz_z ok rfl trivial rfl rfl (by first | exact Or.inl rfl | exact Or.inr rfl | exact zz_bi01 _) ?_
      exact zz_pq h (by simp [h2, h7, zz_bi]) rfl
theorem sp_Le_isServer {G : zG} {post : Option zV → zM → Prop} {M : zM} {x : Int32} (hG : zz_go G) (h : post (some (.inl (zz_bi (!decide (x < 0) && !decide (4 < x))))) M) : zz_T G md_Le_isServer [.inl x] M post := by
  refine en_Le_isServer hG rfl (fun Z ok => ?_)
  refine zz_cS ok rfl trivial rfl lk_Le_50 ca_Le_isWithin rfl rfl rfl (sp_Le_isWithin hG ?_)
  refine zz_z ok rfl trivial rfl rfl (by first | exact Or.inl rfl | exact Or.inr rfl | exact zz_bi01 _) ?_
  exact h
theorem sp_Le_isDuration {G : zG} {post : Option zV → zM → Prop} {M : zM} {x : Int32} (hG : zz_go G) (h : post (some (.inl (zz_bi (!decide (x < 1) && !decide (100 < x))))) M) : zz_T G md_Le_isDuration [.inl x] M post := by
  refine en_Le_isDuration hG rfl (fun Z ok => ?_)
  refine zz_cS ok rfl trivial rfl lk_Le_50 ca_Le_isWithin rfl rfl rfl (sp_Le_isWithin hG ?_)
  refine zz_z ok rfl trivial rfl rfl (by first | exact Or.inl rfl | exact Or.inr rfl | exact zz_bi01 _) ?_
  exact h
theorem sp_Le_isKey {G : zG} {post : Option zV → zM → Prop} {M : zM} {x : Int32} (hG : zz_go G) (h : post (some (.inl (zz_bi (!decide (x < 0) && !decide (7 < x))))) M) : zz_T G md_Le_isKey [.inl x] M post := by
  refine en_Le_isKey hG rfl (fun Z ok => ?_)
  refine zz_cS ok rfl trivial rfl lk_Le_50 ca_Le_isWithin rfl rfl rfl (sp_Le_isWithin hG ?_)
  refine zz_z ok rfl trivial rfl rfl (by first | exact Or.inl rfl | exact Or.inr rfl | exact zz_bi01 _) ?_
  exact h
theorem sp_Le_isValue {G : zG} {post : Option zV → zM → Prop} {M : zM} {x : Int32} (hG : zz_go G) (h : post (some (.inl (zz_bi (!decide (x < 0) && !decide (999 < x))))) M) : zz_T G md_Le_isValue [.inl x] M post := by
  refine en_Le_isValue hG rfl (fun Z ok => ?_)
  refine zz_cS ok rfl trivial rfl lk_Le_50 ca_Le_isWithin rfl rfl rfl (sp_Le_isWithin hG ?_)
  refine zz_z ok rfl trivial rfl rfl (by first | exact Or.inl rfl | exact Or.inr rfl | exact zz_bi01 _) ?_
  exact h
theorem sp_Wo_reading {G : zG} {post : Option zV → zM → Prop} {M : zM} {s : Nat} {a : Int32} (hG : zz_go G) (ea : a = nI s) (hs : s < 5) (h : post (some (.inl (c_rd M s))) M) : zz_T G md_Wo_reading [.inr (.inr (4, 0, 0)), .inl a] M post := by
  refine en_Wo_reading hG rfl (fun Z ok => ?_)
  subst ea
  have es := ni_e5 hs
  refine zz_i ok rfl (by and_intros <;> first | trivial | exact ni_5 hs) rfl rfl ?_
  exact zz_pq h (by simp [c_rd, es]) rfl
theorem sp_Wo_earliest {G : zG} {post : Option zV → zM → Prop} {M : zM} {s : Nat} {a : Int32} (hG : zz_go G) (ea : a = nI s) (hs : s < 5) (h : post (some (.inl (c_ea M s))) M) : zz_T G md_Wo_earliest [.inr (.inr (4, 0, 0)), .inl a] M post := by
  refine en_Wo_earliest hG rfl (fun Z ok => ?_)
  subst ea
  have es := ni_e5 hs
  refine zz_i ok rfl (by and_intros <;> first | trivial | exact ni_5 hs) rfl rfl ?_
  exact zz_pq h (by simp [c_ea, es]) rfl
theorem sp_Wo_latest {G : zG} {post : Option zV → zM → Prop} {M : zM} {s : Nat} {a : Int32} (hG : zz_go G) (ea : a = nI s) (hs : s < 5) (h : post (some (.inl (c_la M s))) M) : zz_T G md_Wo_latest [.inr (.inr (4, 0, 0)), .inl a] M post := by
  refine en_Wo_latest hG rfl (fun Z ok => ?_)
  subst ea
  have es := ni_e5 hs
  refine zz_i ok rfl (by and_intros <;> first | trivial | exact ni_5 hs) rfl rfl ?_
  exact zz_pq h (by simp [c_la, es]) rfl
theorem sp_Wo_isReached {G : zG} {post : Option zV → zM → Prop} {M : zM} {s v : Nat} {a b : Int32} (hG : zz_go G) (ea : a = nI s) (hs : s < 5) (eb : b = nI v) (hv : v < 5) (h : post (some (.inl (zz_bi (c_re M s v)))) M) : zz_T G md_Wo_isReached [.inr (.inr (4, 0, 0)), .inl a, .inl b] M post := by
  refine en_Wo_isReached hG rfl (fun Z ok => ?_)
  subst ea; subst eb
  have es := ni_e5 hs
  have ev := ni_e5 hv
  refine zz_b ok rfl (by and_intros <;> first | trivial | exact ni_5 hs | exact ni_5 hv) rfl (fun h9 => ?_) (fun h9 => ?_)
  · skip
    try simp only [es, ev] at h9 ⊢
    refine zz_b ok rfl (by and_intros <;> first | trivial | exact ni_5 hs | exact ni_5 hv) rfl (fun h21 => ?_) (fun h21 => ?_)
    · skip
      try simp only [es, ev] at h21 ⊢
      refine zz_b ok rfl trivial rfl (fun h26 => ?_) (fun h26 => ?_)
      · skip
        try simp only [es, ev] at h26 ⊢
        rw [ni_eqn (by omega) (by omega)] at h26
        refine zz_z ok rfl trivial rfl rfl (by first | exact Or.inl rfl | exact Or.inr rfl | exact zz_bi01 _) ?_
        exact zz_pq h (by simp [c_re, zz_bi, h9, h21, h26]) rfl
      · skip
        try simp only [es, ev] at h26 ⊢
        rw [ni_eqn (by omega) (by omega)] at h26
        refine zz_b ok rfl ⟨ni_inx (ni_25 hs hv) (by omega) (by decide), trivial⟩ rfl (fun h40 => ?_) (fun h40 => ?_)
        · skip
          try simp only [es, ev] at h40 ⊢
          rw [ni_25 hs hv, zz_ixn (by omega)] at h40
          refine zz_z ok rfl trivial rfl rfl (by first | exact Or.inl rfl | exact Or.inr rfl | exact zz_bi01 _) ?_
          exact zz_pq h (by simp [c_re, zz_bi, h9, h21, h26, h40]) rfl
        · skip
          try simp only [es, ev] at h40 ⊢
          rw [ni_25 hs hv, zz_ixn (by omega)] at h40
          refine zz_z ok rfl trivial rfl rfl (by first | exact Or.inl rfl | exact Or.inr rfl | exact zz_bi01 _) ?_
          exact zz_pq h (by simp [c_re, zz_bi, h9, h21, h26, h40]) rfl
    · skip
      try simp only [es, ev] at h21 ⊢
      refine zz_z ok rfl trivial rfl rfl (by first | exact Or.inl rfl | exact Or.inr rfl | exact zz_bi01 _) ?_
      exact zz_pq h (by simp [c_re, zz_bi, h9, h21]) rfl
  · skip
    try simp only [es, ev] at h9 ⊢
    refine zz_z ok rfl trivial rfl rfl (by first | exact Or.inl rfl | exact Or.inr rfl | exact zz_bi01 _) ?_
    exact zz_pq h (by simp [c_re, zz_bi, h9]) rfl
theorem sp_Wo_isHolder {G : zG} {post : Option zV → zM → Prop} {M : zM} {s : Nat} {a : Int32} (hG : zz_go G) (ea : a = nI s) (hs : s < 5) (h : post (some (.inl (zz_bi (c_ho M s)))) M) : zz_T G md_Wo_isHolder [.inr (.inr (4, 0, 0)), .inl a] M post := by
  refine en_Wo_isHolder hG rfl (fun Z ok => ?_)
  subst ea
  have es := ni_e5 hs
  refine zz_b ok rfl (by and_intros <;> first | trivial | exact ni_5 hs) rfl (fun h11 => ?_) (fun h11 => ?_)
  · skip
    try simp only [es] at h11 ⊢
    refine zz_b ok rfl trivial rfl (fun h21 => ?_) (fun h21 => ?_)
    · skip
      try simp only [es] at h21 ⊢
      refine zz_z ok rfl trivial rfl rfl (by first | exact Or.inl rfl | exact Or.inr rfl | exact zz_bi01 _) ?_
      exact zz_pq h (by simp [c_ho, zz_bi, h11, h21]) rfl
    · skip
      try simp only [es] at h21 ⊢
      refine zz_cV ok rfl trivial rfl lk_Wo_72 ca_Wo_latest rfl rfl rfl rfl rfl (sp_Wo_latest hG rfl hs ?_)
      try simp only [es]
      refine zz_b ok rfl trivial rfl (fun h33 => ?_) (fun h33 => ?_)
      · skip
        try simp only [es] at h33 ⊢
        refine zz_z ok rfl trivial rfl rfl (by first | exact Or.inl rfl | exact Or.inr rfl | exact zz_bi01 _) ?_
        exact zz_pq h (by simp [c_ho, zz_bi, h11, h21, h33]) rfl
      · skip
        try simp only [es] at h33 ⊢
        refine zz_z ok rfl trivial rfl rfl (by first | exact Or.inl rfl | exact Or.inr rfl | exact zz_bi01 _) ?_
        exact zz_pq h (by simp [c_ho, zz_bi, h11, h21, h33]) rfl
  · skip
    try simp only [es] at h11 ⊢
    refine zz_z ok rfl trivial rfl rfl (by first | exact Or.inl rfl | exact Or.inr rfl | exact zz_bi01 _) ?_
    exact zz_pq h (by simp [c_ho, zz_bi, h11]) rfl
theorem sp_Wo_holders {G : zG} {post : Option zV → zM → Prop} {M : zM} (hG : zz_go G) (h : post (some (.inl (c_hs M 5))) M) : zz_T G md_Wo_holders [.inr (.inr (4, 0, 0))] M post := by
  refine en_Wo_holders hG rfl (fun Z ok => ?_)
  have lp4 : ∀ (f k : Nat), 5 - k < f → k ≤ 5 → ∀ (x2 x1 : Int32), x2 = nI k → x1 = c_hs M k → zz_W G Z md_Wo_holders post 4 [(2, .inl x2), (1, .inl x1), (0, .inr (.inr (4, 0, 0)))] [] M := by
    intro f
    induction f with
    | zero => intro k hf; exact absurd hf (Nat.not_lt_zero _)
    | succ f ih => ?_
    intro k hf hk x2 x1 e2 e1
    subst e2; subst e1
    refine zz_b ok rfl trivial rfl (fun h6 => ?_) (fun h6 => ?_)
    · skip
      rw [ni_lit, ni_ltn (by omega) (by decide)] at h6
      refine zz_cV ok rfl trivial rfl lk_Wo_79 ca_Wo_isHolder rfl rfl rfl rfl rfl (sp_Wo_isHolder hG rfl (by omega) ?_)
      refine zz_b ok rfl trivial rfl (fun h15 => ?_) (fun h15 => ?_)
      · skip
        simp only [zz_bi0, Bool.not_eq_false] at h15
        refine zz_g ok rfl trivial ?_
        refine zz_pm [2, 1, 0] rfl ?_
        exact ih (k + 1) (by omega) (by omega) _ _ (nI_1 k) (by rw [c_hs, if_neg (by simp [h15])])
      · skip
        simp only [zz_bi0, Bool.not_eq_false] at h15
        refine zz_g ok rfl trivial ?_
        refine zz_pm [2, 1, 0] rfl ?_
        exact ih (k + 1) (by omega) (by omega) _ _ (nI_1 k) (by rw [c_hs, if_pos h15])
    · skip
      rw [ni_lit, ni_ltn (by omega) (by decide)] at h6
      have hk5 : k = 5 := by omega
      subst hk5
      refine zz_i ok rfl trivial rfl rfl ?_
      exact h
  refine zz_g ok rfl trivial ?_
  refine zz_pm [2, 1, 0] rfl ?_
  exact lp4 6 0 (by omega) (by omega) _ _ rfl rfl
theorem sp_Wo_runningServers {G : zG} {post : Option zV → zM → Prop} {M : zM} (hG : zz_go G) (h : post (some (.inl (c_rs M 5))) M) : zz_T G md_Wo_runningServers [.inr (.inr (4, 0, 0))] M post := by
  refine en_Wo_runningServers hG rfl (fun Z ok => ?_)
  have lp4 : ∀ (f k : Nat), 5 - k < f → k ≤ 5 → ∀ (x2 x1 : Int32), x2 = nI k → x1 = c_rs M k → zz_W G Z md_Wo_runningServers post 4 [(2, .inl x2), (1, .inl x1), (0, .inr (.inr (4, 0, 0)))] [] M := by
    intro f
    induction f with
    | zero => intro k hf; exact absurd hf (Nat.not_lt_zero _)
    | succ f ih => ?_
    intro k hf hk x2 x1 e2 e1
    subst e2; subst e1
    refine zz_b ok rfl trivial rfl (fun h6 => ?_) (fun h6 => ?_)
    · skip
      rw [ni_lit, ni_ltn (by omega) (by decide)] at h6
      refine zz_b ok rfl ⟨ni_5 (by omega), trivial⟩ rfl (fun h19 => ?_) (fun h19 => ?_)
      · skip
        rw [zz_ixn (by omega)] at h19
        refine zz_g ok rfl trivial ?_
        refine zz_pm [2, 1, 0] rfl ?_
        exact ih (k + 1) (by omega) (by omega) _ _ (nI_1 k) (by rw [c_rs, if_pos h19])
      · skip
        rw [zz_ixn (by omega)] at h19
        refine zz_g ok rfl trivial ?_
        refine zz_pm [2, 1, 0] rfl ?_
        exact ih (k + 1) (by omega) (by omega) _ _ (nI_1 k) (by rw [c_rs, if_neg h19])
    · skip
      rw [ni_lit, ni_ltn (by omega) (by decide)] at h6
      have hk5 : k = 5 := by omega
      subst hk5
      refine zz_i ok rfl trivial rfl rfl ?_
      exact h
  refine zz_g ok rfl trivial ?_
  refine zz_pm [2, 1, 0] rfl ?_
  exact lp4 6 0 (by omega) (by omega) _ _ rfl rfl
theorem sp_Wo_linksUp {G : zG} {post : Option zV → zM → Prop} {M : zM} (hG : zz_go G) (h : post (some (.inl (c_lo M 5))) M) : zz_T G md_Wo_linksUp [.inr (.inr (4, 0, 0))] M post := by
  refine en_Wo_linksUp hG rfl (fun Z ok => ?_)
  have lp4 : ∀ (f k : Nat), 5 - k < f → k ≤ 5 → ∀ (x2 x1 : Int32), x2 = nI k → x1 = c_lo M k → zz_W G Z md_Wo_linksUp post 4 [(2, .inl x2), (1, .inl x1), (0, .inr (.inr (4, 0, 0)))] [] M := by
    intro f
    induction f with
    | zero => intro k hf; exact absurd hf (Nat.not_lt_zero _)
    | succ f ih => ?_
    intro k hf hk x2 x1 e2 e1
    subst e2; subst e1
    refine zz_b ok rfl trivial rfl (fun h6 => ?_) (fun h6 => ?_)
    · skip
      rw [ni_lit, ni_ltn (by omega) (by decide)] at h6
      have lp13 : ∀ (g c : Nat), 4 - k - c < g → c ≤ 4 - k → ∀ (x3 x1 : Int32), x3 = nI (k + 1 + c) → x1 = c_li M k c (c_lo M k) → zz_W G Z md_Wo_linksUp post 13 [(3, .inl x3), (2, .inl (nI k)), (1, .inl x1), (0, .inr (.inr (4, 0, 0)))] [] M := by
        intro g
        induction g with
        | zero => intro c hg; exact absurd hg (Nat.not_lt_zero _)
        | succ g ih2 => ?_
        intro c hg hc x3 x1 e3 e1
        subst e3; subst e1
        refine zz_b ok rfl trivial rfl (fun h15 => ?_) (fun h15 => ?_)
        · skip
          rw [ni_lit, ni_ltn (by omega) (by decide)] at h15
          refine zz_g ok rfl ⟨ni_inx (n := 5 * k + (k + 1 + c)) (by rw [ni_lit, ni_mul, nI_add, Nat.mul_comm k 5]) (by omega) (by decide), trivial⟩ ?_
          refine zz_pm [3, 2, 1, 0] rfl ?_
          exact ih2 (c + 1) (by omega) (by omega) _ _ (nI_1 _) (by rw [c_li, ni_lit, ni_mul, nI_add, zz_ixn (by omega), Nat.mul_comm k 5])
        · skip
          rw [ni_lit, ni_ltn (by omega) (by decide)] at h15
          have hc4 : c = 4 - k := by omega
          subst hc4
          refine zz_g ok rfl trivial ?_
          refine zz_pm [2, 1, 0] rfl ?_
          exact ih (k + 1) (by omega) (by omega) _ _ (nI_1 k) rfl
      refine zz_g ok rfl trivial ?_
      refine zz_pm [3, 2, 1, 0] rfl ?_
      exact lp13 6 0 (by omega) (by omega) _ _ (nI_1 k) rfl
    · skip
      rw [ni_lit, ni_ltn (by omega) (by decide)] at h6
      have hk5 : k = 5 := by omega
      subst hk5
      refine zz_i ok rfl trivial rfl rfl ?_
      exact h
  refine zz_g ok rfl trivial ?_
  refine zz_pm [2, 1, 0] rfl ?_
  exact lp4 6 0 (by omega) (by omega) _ _ rfl rfl
theorem sp_Wo_keepGiven {G : zG} {post : Option zV → zM → Prop} {M : zM} {s e st : Int32} (hG : zz_go G) (hw : wr M 0) (h : post none (c_kg M s e st)) : zz_T G md_Wo_keepGiven [.inr (.inr (4, 0, 0)), .inl s, .inl e, .inl st] M post := by
  refine en_Wo_keepGiven hG rfl (fun Z ok => ?_)
  have h11 := hw 11 (by decide)
  have h11b := c_kg0_wr hw 11 (by decide)
  unfold c_kg at h
  refine zz_cV ok rfl trivial rfl lk_Wo_106 ca_Ro_isFull rfl rfl rfl rfl rfl (sp_Ro_isFull hG h11.1 h11.2 ?_)
  refine zz_b ok rfl trivial rfl (fun h7 => ?_) (fun h7 => ?_)
  · skip
    simp only [zz_bi0, decide_eq_true_eq, decide_eq_false_iff_not, Bool.not_eq_false, Decidable.not_not] at h7
    have e0 : c_kg0 M = M := by
      rw [c_kg0, if_neg h7]
    refine zz_cg (M' := c_kg0 M) ?_ rfl rfl e0.symm
    refine zz_cV ok rfl trivial rfl lk_Wo_110 ca_Ro_add rfl rfl rfl rfl rfl (sp_Ro_add hG h11b.1 h11b.2 ?_)
    refine zz_v ok rfl trivial rfl rfl ?_
    exact h
  · skip
    simp only [zz_bi0, decide_eq_true_eq, decide_eq_false_iff_not, Bool.not_eq_false, Decidable.not_not] at h7
    refine zz_cV ok rfl trivial rfl lk_Wo_103 ca_Ro_dropFirst rfl rfl rfl rfl rfl (sp_Ro_dropFirst hG h11.1 h11.2 (k := 1) rfl (by decide) ?_)
    have e0 : c_kg0 M = ro_drop M 0 11 (rn M 0 11) 1 := by
      rw [c_kg0, if_pos h7]
    refine zz_cg (M' := c_kg0 M) ?_ rfl rfl e0.symm
    refine zz_cV ok rfl trivial rfl lk_Wo_110 ca_Ro_add rfl rfl rfl rfl rfl (sp_Ro_add hG h11b.1 h11b.2 ?_)
    refine zz_v ok rfl trivial rfl rfl ?_
    exact h
