/-- nothing but the row of numbers changes -/
def mfr (M M' : zM) : Prop := M'.2 = M.2 ∧ ∀ r i, ¬ r = (20, 0, 0) → M'.1 r i = M.1 r i
theorem mfr_rfl {M : zM} : mfr M M := ⟨rfl, fun _ _ _ => rfl⟩
theorem mfr_s {M M' : zM} {i : Nat} {v : Int32} (h : mfr M M') : mfr M (qs M' i v) := ⟨h.1, fun r j hr => by rw [zz_gs, if_neg (fun z => hr z.1)]; exact h.2 r j hr⟩
theorem mfr_c {M M' : zM} {a : zR} {sp dp n : Nat} (h : mfr M M') : mfr M (zz_cpy M' a (20, 0, 0) sp dp n) := ⟨h.1, fun r j hr => by rw [zz_gc, if_neg hr]; exact h.2 r j hr⟩
theorem mfr_it {M : zM} {f : Nat → zM → zM} (hf : ∀ k M', mfr M M' → mfr M (f k M')) : ∀ (k : Nat) (M' : zM), mfr M M' → mfr M (zz_it f k M')
  | 0, _, h => h
  | k + 1, M', h => hf k _ (mfr_it hf k M' h)
theorem mfr_it2 {M : zM} {f : Nat → zM × Int32 → zM × Int32} (hf : ∀ k X, mfr M X.1 → mfr M (f k X).1) : ∀ (k : Nat) (X : zM × Int32), mfr M X.1 → mfr M (zz_it f k X).1
  | 0, _, h => h
  | k + 1, X, h => hf k _ (mfr_it2 hf k X h)
theorem mfr_g0 {M M' : zM} (h : mfr M M') : mfr M (m_g0 M') := by
  unfold m_g0; split
  · exact mfr_s (mfr_c h)
  · exact h
theorem mfr_gi {M M' : zM} {s k : Nat} (h : mfr M M') : mfr M (m_gi M' s k) := by
  unfold m_gi m_g2 m_g1
  exact mfr_c (mfr_c (mfr_s (mfr_s (mfr_s (mfr_s (mfr_s (mfr_s (mfr_s (mfr_g0 h)))))))))
theorem mfr_gs {M : zM} (s : Nat) : ∀ (f : Nat) (M' : zM), mfr M M' → mfr M (m_gs s f M')
  | 0, _, h => h
  | f + 1, M', h => by
    unfold m_gs; split
    · exact h
    · exact mfr_gs s f _ (mfr_gi h)
theorem mfr_tk1 {M M' : zM} {k : Nat} (h : mfr M M') : mfr M (m_tk1 k M') := by
  unfold m_tk1; split
  · exact mfr_gs _ _ _ h
  · exact h
theorem mfr_tk {M M' : zM} (h : mfr M M') : mfr M (m_tk M') := by
  unfold m_tk; exact mfr_it (fun k M' h => mfr_tk1 h) _ _ (mfr_s h)
theorem mfr_tks {M M' : zM} (h : mfr M M') : ∀ k, mfr M (m_tks M' k)
  | 0 => h
  | k + 1 => mfr_tk (mfr_tks h k)
theorem mfr_e1 {M : zM} {s v : Nat} {t e : Int32} {X : zM × Int32} (h : mfr M X.1) : mfr M (m_e1 s t e v X).1 := by
  unfold m_e1; split
  · exact mfr_s (mfr_s h)
  · split
    · exact mfr_s (mfr_s (mfr_s (mfr_s h)))
    · exact mfr_s h
theorem mfr_aq {M M' : zM} {s : Nat} {d : Int32} (h : mfr M M') : mfr M (m_aq M' s d).2 := by
  have h1 : mfr M (m_eX M' s d).1 := by
    unfold m_eX m_m0; exact mfr_it2 (fun k X h => mfr_e1 h) _ _ (mfr_s h)
  unfold m_aq; split
  · exact mfr_s (mfr_s (mfr_s h1))
  · exact mfr_s (mfr_s (mfr_s h1))
theorem mfr_r1 {M : zM} {s v : Nat} {t e : Int32} {X : zM × Int32} (h : mfr M X.1) : mfr M (m_r1 s t e v X).1 := by
  unfold m_r1; split
  · exact mfr_s (mfr_s (mfr_s (mfr_s h)))
  · exact mfr_s h
theorem mfr_rn {M M' : zM} {s : Nat} {d : Int32} (h : mfr M M') : mfr M (m_rn M' s d).2 := by
  have h1 : mfr M (m_rX M' s d).1 := by
    unfold m_rX; exact mfr_it2 (fun k X h => mfr_r1 h) _ _ h
  unfold m_rn; split
  · exact mfr_s h1
  · exact mfr_s (mfr_s h1)
theorem mfr_u1 {M : zM} {s v : Nat} {X : zM × Int32} (h : mfr M X.1) : mfr M (m_u1 s v X).1 := by
  unfold m_u1; split
  · exact mfr_s h
  · exact h
theorem mfr_gu {M M' : zM} {s : Nat} (h : mfr M M') : mfr M (m_gu M' s).1 := by
  unfold m_gu; exact mfr_it2 (fun k X h => mfr_u1 h) _ _ (mfr_s h)
theorem mfr_cl {M M' : zM} {s v : Nat} {t d : Int32} (h : mfr M M') : mfr M (m_cl M' s v t d) := by
  unfold m_cl; exact mfr_s (mfr_s (mfr_s (mfr_c h)))
theorem mfr_rm {M M' : zM} {s : Nat} (h : mfr M M') : mfr M (m_rm M' s) := by
  unfold m_rm; exact mfr_s (mfr_c h)
theorem mfr_w1 {M : zM} {s v : Nat} {t : Int32} {X : zM × Int32} (h : mfr M X.1) : mfr M (m_w1 s t v X).1 := by
  unfold m_w1; split
  · exact mfr_cl h
  · exact h
theorem mfr_wr {M M' : zM} {s : Nat} {k v : Int32} (h : mfr M M') : mfr M (m_wr M' s k v).2 := by
  have h1 : mfr M (m_wX M' s k v).1 := by
    unfold m_wX m_w0; exact mfr_it2 (fun k X h => mfr_w1 h) _ _ (mfr_s (mfr_s (mfr_s (mfr_s (mfr_s h)))))
  unfold m_wr; split
  · exact h
  · split
    · exact h
    · split
      · exact h1
      · unfold m_w3 m_w2; exact mfr_s (mfr_s (mfr_s (mfr_rm (mfr_s h1))))
theorem m_acquire_fr {M : zM} {a d : Int32} : mfr M (m_acquire M a d).2 := by
  unfold m_acquire; split
  · exact mfr_rfl
  · split
    · exact mfr_rfl
    · exact mfr_aq mfr_rfl
theorem m_renew_fr {M : zM} {a d : Int32} : mfr M (m_renew M a d).2 := by
  unfold m_renew; split
  · exact mfr_rfl
  · split
    · exact mfr_rfl
    · exact mfr_rn mfr_rfl
theorem m_giveUp_fr {M : zM} {a : Int32} : mfr M (m_giveUp M a).2 := by
  unfold m_giveUp; split
  · exact mfr_rfl
  · split
    · exact mfr_rfl
    · dsimp only; exact mfr_gu mfr_rfl
theorem m_handOver_fr {M : zM} {a b d : Int32} : mfr M (m_handOver M a b d).2 := by
  unfold m_handOver; split
  · exact mfr_rfl
  · split
    · exact mfr_rfl
    · exact mfr_aq (mfr_gu (mfr_cl mfr_rfl))
theorem m_write_fr {M : zM} {a k v : Int32} : mfr M (m_write M a k v).2 := by
  unfold m_write; split
  · exact mfr_rfl
  · exact mfr_wr mfr_rfl
theorem m_barrier_fr {M : zM} {a : Int32} : mfr M (m_barrier M a).2 := by
  unfold m_barrier; split
  · exact mfr_rfl
  · exact mfr_wr mfr_rfl
theorem m_pass_fr {M : zM} {t : Int32} : mfr M (m_pass M t).2 := by
  unfold m_pass; split
  · exact mfr_rfl
  · split
    · exact mfr_rfl
    · exact mfr_tks mfr_rfl _
theorem m_setState_fr {M : zM} {a x : Int32} : mfr M (m_setState M a x).2 := by
  unfold m_setState; split
  · exact mfr_rfl
  · dsimp only; split
    · exact mfr_s (mfr_s (mfr_s mfr_rfl))
    · exact mfr_s mfr_rfl
theorem m_setLink_fr {M : zM} {a b u : Int32} : mfr M (m_setLink M a b u).2 := by
  unfold m_setLink; split
  · exact mfr_rfl
  · exact mfr_s (mfr_s mfr_rfl)
theorem m_do_fr {M : zM} {k : Nat} : mfr M (m_do M k).2 := by
  unfold m_do
  split; exact m_acquire_fr
  split; exact m_barrier_fr
  split; exact m_giveUp_fr
  split; exact m_handOver_fr
  split; exact m_pass_fr
  split; exact m_renew_fr
  split; exact m_setState_fr
  split; exact m_write_fr
  exact m_setLink_fr
theorem m_d1_fr {M : zM} {k : Nat} {r : zR} {i : Nat} (h1 : ¬ r = (20, 0, 0)) (h2 : ¬ r = (24, 0, 0)) : (m_d1 k M).1 r i = M.1 r i := by
  unfold m_d1; rw [zz_gs, if_neg (fun z => h2 z.1)]; exact m_do_fr.2 r i h1
theorem m_ds_fr {r : zR} {i : Nat} (h1 : ¬ r = (20, 0, 0)) (h2 : ¬ r = (24, 0, 0)) : ∀ (k : Nat) (M : zM), (zz_it m_d1 k M).1 r i = M.1 r i
  | 0, _ => rfl
  | k + 1, M => by rw [zz_it, m_d1_fr h1 h2]; exact m_ds_fr h1 h2 k M
def m_r0 (M : zM) (n : Nat) : zM := m_skp (zz_set (zz_set M (6, 0, 0) 10 0) (6, 0, 0) 9 0) n
def m_rP (M : zM) (n : Nat) : Bool × zM := m_rl n (n + 1) (m_r0 M n)
def m_rQ0 (M : zM) (n : Nat) : zM := zz_set (m_rP M n).2 (6, 0, 0) 6 ((m_rP M n).2.1 (6, 0, 0) 9)
def m_rQ (M : zM) (n : Nat) : zM := zz_it m_d1 (mcal (m_rP M n).2) (m_rQ0 M n)
def m_run (M : zM) (n : Nat) : Int32 × zM := if (m_rP M n).1 = false then (-2000 - (m_rP M n).2.1 (6, 0, 0) 10, (m_rP M n).2) else ((m_rP M n).2.1 (6, 0, 0) 9, m_rQ M n)
theorem sp_Mo_does {G : zG} {post : Option zV → zM → Prop} {M : zM} {k : Nat} {a : Int32} (hm : mw M) (hd : mdl M) (hG : zz_go G) (ea : a = nI k) (hk : k < 50) (h : post (some (.inl (m_do M k).1)) (m_do M k).2) : zz_T G md_Mo_does [.inr (.inr (6, 0, 0)), .inl a] M post := by
  refine en_Mo_does hG rfl (fun Z ok => ?_)
  subst ea
  refine zz_g ok rfl (by and_intros <;> first | exact True.intro | with_reducible exact vi7 (by omega) (by decide) | with_reducible exact vi7p (by omega) (by decide)) ?_
  simp +decide only [mi7 (a := k) (by omega), mi7p (a := k) (by omega)]
  refine zz_tsw ok sw_Mo_does_42 [(97, 148), (98, 186), (99, 205), (100, 205), (101, 205), (102, 205), (103, 162), (104, 168), (105, 205), (106, 205), (107, 205), (108, 205), (109, 205), (110, 205), (111, 205), (112, 192), (113, 205), (114, 155), (115, 198), (116, 205), (117, 205), (118, 205), (119, 177)] 205 (by decide +kernel) ?_
  refine ⟨fun h42_97 => ?_, fun h42_97 => ?_⟩
  · skip
    refine zz_cV ok rfl trivial rfl lk_Mo_150 ca_Mo_acquire rfl rfl rfl rfl rfl (sp_Mo_acquire hm hG ?_)
    try simp +decide only [mi7 (a := k) (by omega), mi7p (a := k) (by omega)]
    refine zz_i ok rfl trivial rfl rfl ?_
    first | (exfalso; clear h hm hd hG; simp_all; done) | exact zz_pq h (by simp [m_do, h42_97]) (by simp [m_do, h42_97])
  refine ⟨fun h42_98 => ?_, fun h42_98 => ?_⟩
  · skip
    refine zz_cV ok rfl trivial rfl lk_Mo_165 ca_Mo_barrier rfl rfl rfl rfl rfl (sp_Mo_barrier hm hd hG ?_)
    try simp +decide only [mi7 (a := k) (by omega), mi7p (a := k) (by omega)]
    refine zz_i ok rfl trivial rfl rfl ?_
    first | (exfalso; clear h hm hd hG; simp_all; done) | exact zz_pq h (by simp [m_do, h42_97, h42_98]) (by simp [m_do, h42_97, h42_98])
  refine ⟨fun h42_99 => ?_, fun h42_99 => ?_⟩
  · skip
    refine zz_b ok rfl (by and_intros <;> first | exact True.intro | with_reducible exact vi7 (by omega) (by decide) | with_reducible exact vi7p (by omega) (by decide)) rfl (fun h218 => ?_) (fun h218 => ?_)
    · skip
      try simp +decide only [mi7 (a := k) (by omega), mi7p (a := k) (by omega)] at h218 ⊢
      refine zz_cV ok rfl trivial rfl lk_Mo_174 ca_Mo_setLink rfl rfl rfl rfl rfl (sp_Mo_setLink hG ?_)
      try simp +decide only [mi7 (a := k) (by omega), mi7p (a := k) (by omega)]
      refine zz_i ok rfl trivial rfl rfl ?_
      first | (exfalso; clear h hm hd hG; simp_all; done) | exact zz_pq h (by simp [m_do, h42_97, h42_98, h42_99, h218]) (by simp [m_do, h42_97, h42_98, h42_99, h218])
    · skip
      try simp +decide only [mi7 (a := k) (by omega), mi7p (a := k) (by omega)] at h218 ⊢
      refine zz_cV ok rfl trivial rfl lk_Mo_174 ca_Mo_setLink rfl rfl rfl rfl rfl (sp_Mo_setLink hG ?_)
      try simp +decide only [mi7 (a := k) (by omega), mi7p (a := k) (by omega)]
      refine zz_i ok rfl trivial rfl rfl ?_
      first | (exfalso; clear h hm hd hG; simp_all; done) | exact zz_pq h (by simp [m_do, h42_97, h42_98, h42_99, h218]) (by simp [m_do, h42_97, h42_98, h42_99, h218])
  refine ⟨fun h42_100 => ?_, fun h42_100 => ?_⟩
  · skip
    refine zz_b ok rfl (by and_intros <;> first | exact True.intro | with_reducible exact vi7 (by omega) (by decide) | with_reducible exact vi7p (by omega) (by decide)) rfl (fun h218 => ?_) (fun h218 => ?_)
    · skip
      try simp +decide only [mi7 (a := k) (by omega), mi7p (a := k) (by omega)] at h218 ⊢
      refine zz_cV ok rfl trivial rfl lk_Mo_174 ca_Mo_setLink rfl rfl rfl rfl rfl (sp_Mo_setLink hG ?_)
      try simp +decide only [mi7 (a := k) (by omega), mi7p (a := k) (by omega)]
      refine zz_i ok rfl trivial rfl rfl ?_
      first | (exfalso; clear h hm hd hG; simp_all; done) | exact zz_pq h (by simp [m_do, h42_97, h42_98, h42_99, h42_100, h218]) (by simp [m_do, h42_97, h42_98, h42_99, h42_100, h218])
    · skip
      try simp +decide only [mi7 (a := k) (by omega), mi7p (a := k) (by omega)] at h218 ⊢
      refine zz_cV ok rfl trivial rfl lk_Mo_174 ca_Mo_setLink rfl rfl rfl rfl rfl (sp_Mo_setLink hG ?_)
      try simp +decide only [mi7 (a := k) (by omega), mi7p (a := k) (by omega)]
      refine zz_i ok rfl trivial rfl rfl ?_
      first | (exfalso; clear h hm hd hG; simp_all; done) | exact zz_pq h (by simp [m_do, h42_97, h42_98, h42_99, h42_100, h218]) (by simp [m_do, h42_97, h42_98, h42_99, h42_100, h218])
  refine ⟨fun h42_101 => ?_, fun h42_101 => ?_⟩
  · skip
    refine zz_b ok rfl (by and_intros <;> first | exact True.intro | with_reducible exact vi7 (by omega) (by decide) | with_reducible exact vi7p (by omega) (by decide)) rfl (fun h218 => ?_) (fun h218 => ?_)
    · skip
      try simp +decide only [mi7 (a := k) (by omega), mi7p (a := k) (by omega)] at h218 ⊢
      refine zz_cV ok rfl trivial rfl lk_Mo_174 ca_Mo_setLink rfl rfl rfl rfl rfl (sp_Mo_setLink hG ?_)
      try simp +decide only [mi7 (a := k) (by omega), mi7p (a := k) (by omega)]
      refine zz_i ok rfl trivial rfl rfl ?_
      first | (exfalso; clear h hm hd hG; simp_all; done) | exact zz_pq h (by simp [m_do, h42_97, h42_98, h42_99, h42_100, h42_101, h218]) (by simp [m_do, h42_97, h42_98, h42_99, h42_100, h42_101, h218])
    · skip
      try simp +decide only [mi7 (a := k) (by omega), mi7p (a := k) (by omega)] at h218 ⊢
      refine zz_cV ok rfl trivial rfl lk_Mo_174 ca_Mo_setLink rfl rfl rfl rfl rfl (sp_Mo_setLink hG ?_)
      try simp +decide only [mi7 (a := k) (by omega), mi7p (a := k) (by omega)]
      refine zz_i ok rfl trivial rfl rfl ?_
      first | (exfalso; clear h hm hd hG; simp_all; done) | exact zz_pq h (by simp [m_do, h42_97, h42_98, h42_99, h42_100, h42_101, h218]) (by simp [m_do, h42_97, h42_98, h42_99, h42_100, h42_101, h218])
  refine ⟨fun h42_102 => ?_, fun h42_102 => ?_⟩
  · skip
    refine zz_b ok rfl (by and_intros <;> first | exact True.intro | with_reducible exact vi7 (by omega) (by decide) | with_reducible exact vi7p (by omega) (by decide)) rfl (fun h218 => ?_) (fun h218 => ?_)
    · skip
      try simp +decide only [mi7 (a := k) (by omega), mi7p (a := k) (by omega)] at h218 ⊢
      refine zz_cV ok rfl trivial rfl lk_Mo_174 ca_Mo_setLink rfl rfl rfl rfl rfl (sp_Mo_setLink hG ?_)
      try simp +decide only [mi7 (a := k) (by omega), mi7p (a := k) (by omega)]
      refine zz_i ok rfl trivial rfl rfl ?_
      first | (exfalso; clear h hm hd hG; simp_all; done) | exact zz_pq h (by simp [m_do, h42_97, h42_98, h42_99, h42_100, h42_101, h42_102, h218]) (by simp [m_do, h42_97, h42_98, h42_99, h42_100, h42_101, h42_102, h218])
    · skip
      try simp +decide only [mi7 (a := k) (by omega), mi7p (a := k) (by omega)] at h218 ⊢
      refine zz_cV ok rfl trivial rfl lk_Mo_174 ca_Mo_setLink rfl rfl rfl rfl rfl (sp_Mo_setLink hG ?_)
      try simp +decide only [mi7 (a := k) (by omega), mi7p (a := k) (by omega)]
      refine zz_i ok rfl trivial rfl rfl ?_
      first | (exfalso; clear h hm hd hG; simp_all; done) | exact zz_pq h (by simp [m_do, h42_97, h42_98, h42_99, h42_100, h42_101, h42_102, h218]) (by simp [m_do, h42_97, h42_98, h42_99, h42_100, h42_101, h42_102, h218])
  refine ⟨fun h42_103 => ?_, fun h42_103 => ?_⟩
  · skip
    refine zz_cV ok rfl trivial rfl lk_Mo_156 ca_Mo_giveUp rfl rfl rfl rfl rfl (sp_Mo_giveUp hG ?_)
    try simp +decide only [mi7 (a := k) (by omega), mi7p (a := k) (by omega)]
    refine zz_i ok rfl trivial rfl rfl ?_
    first | (exfalso; clear h hm hd hG; simp_all; done) | exact zz_pq h (by simp [m_do, h42_97, h42_98, h42_99, h42_100, h42_101, h42_102, h42_103]) (by simp [m_do, h42_97, h42_98, h42_99, h42_100, h42_101, h42_102, h42_103])
  refine ⟨fun h42_104 => ?_, fun h42_104 => ?_⟩
  · skip
    refine zz_cV ok rfl trivial rfl lk_Mo_159 ca_Mo_handOver rfl rfl rfl rfl rfl (sp_Mo_handOver hm hG ?_)
    try simp +decide only [mi7 (a := k) (by omega), mi7p (a := k) (by omega)]
    refine zz_i ok rfl trivial rfl rfl ?_
    first | (exfalso; clear h hm hd hG; simp_all; done) | exact zz_pq h (by simp [m_do, h42_97, h42_98, h42_99, h42_100, h42_101, h42_102, h42_103, h42_104]) (by simp [m_do, h42_97, h42_98, h42_99, h42_100, h42_101, h42_102, h42_103, h42_104])
  refine ⟨fun h42_105 => ?_, fun h42_105 => ?_⟩
  · skip
    refine zz_b ok rfl (by and_intros <;> first | exact True.intro | with_reducible exact vi7 (by omega) (by decide) | with_reducible exact vi7p (by omega) (by decide)) rfl (fun h218 => ?_) (fun h218 => ?_)
    · skip
      try simp +decide only [mi7 (a := k) (by omega), mi7p (a := k) (by omega)] at h218 ⊢
      refine zz_cV ok rfl trivial rfl lk_Mo_174 ca_Mo_setLink rfl rfl rfl rfl rfl (sp_Mo_setLink hG ?_)
      try simp +decide only [mi7 (a := k) (by omega), mi7p (a := k) (by omega)]
      refine zz_i ok rfl trivial rfl rfl ?_
      first | (exfalso; clear h hm hd hG; simp_all; done) | exact zz_pq h (by simp [m_do, h42_97, h42_98, h42_99, h42_100, h42_101, h42_102, h42_103, h42_104, h42_105, h218]) (by simp [m_do, h42_97, h42_98, h42_99, h42_100, h42_101, h42_102, h42_103, h42_104, h42_105, h218])
    · skip
      try simp +decide only [mi7 (a := k) (by omega), mi7p (a := k) (by omega)] at h218 ⊢
      refine zz_cV ok rfl trivial rfl lk_Mo_174 ca_Mo_setLink rfl rfl rfl rfl rfl (sp_Mo_setLink hG ?_)
      try simp +decide only [mi7 (a := k) (by omega), mi7p (a := k) (by omega)]
      refine zz_i ok rfl trivial rfl rfl ?_
      first | (exfalso; clear h hm hd hG; simp_all; done) | exact zz_pq h (by simp [m_do, h42_97, h42_98, h42_99, h42_100, h42_101, h42_102, h42_103, h42_104, h42_105, h218]) (by simp [m_do, h42_97, h42_98, h42_99, h42_100, h42_101, h42_102, h42_103, h42_104, h42_105, h218])
  refine ⟨fun h42_106 => ?_, fun h42_106 => ?_⟩
  · skip
    refine zz_b ok rfl (by and_intros <;> first | exact True.intro | with_reducible exact vi7 (by omega) (by decide) | with_reducible exact vi7p (by omega) (by decide)) rfl (fun h218 => ?_) (fun h218 => ?_)
    · skip
      try simp +decide only [mi7 (a := k) (by omega), mi7p (a := k) (by omega)] at h218 ⊢
      refine zz_cV ok rfl trivial rfl lk_Mo_174 ca_Mo_setLink rfl rfl rfl rfl rfl (sp_Mo_setLink hG ?_)
      try simp +decide only [mi7 (a := k) (by omega), mi7p (a := k) (by omega)]
      refine zz_i ok rfl trivial rfl rfl ?_
      first | (exfalso; clear h hm hd hG; simp_all; done) | exact zz_pq h (by simp [m_do, h42_97, h42_98, h42_99, h42_100, h42_101, h42_102, h42_103, h42_104, h42_105, h42_106, h218]) (by simp [m_do, h42_97, h42_98, h42_99, h42_100, h42_101, h42_102, h42_103, h42_104, h42_105, h42_106, h218])
    · skip
      try simp +decide only [mi7 (a := k) (by omega), mi7p (a := k) (by omega)] at h218 ⊢
      refine zz_cV ok rfl trivial rfl lk_Mo_174 ca_Mo_setLink rfl rfl rfl rfl rfl (sp_Mo_setLink hG ?_)
      try simp +decide only [mi7 (a := k) (by omega), mi7p (a := k) (by omega)]
      refine zz_i ok rfl trivial rfl rfl ?_
      first | (exfalso; clear h hm hd hG; simp_all; done) | exact zz_pq h (by simp [m_do, h42_97, h42_98, h42_99, h42_100, h42_101, h42_102, h42_103, h42_104, h42_105, h42_106, h218]) (by simp [m_do, h42_97, h42_98, h42_99, h42_100, h42_101, h42_102, h42_103, h42_104, h42_105, h42_106, h218])
  refine ⟨fun h42_107 => ?_, fun h42_107 => ?_⟩
  · skip
    refine zz_b ok rfl (by and_intros <;> first | exact True.intro | with_reducible exact vi7 (by omega) (by decide) | with_reducible exact vi7p (by omega) (by decide)) rfl (fun h218 => ?_) (fun h218 => ?_)
    · skip
      try simp +decide only [mi7 (a := k) (by omega), mi7p (a := k) (by omega)] at h218 ⊢
      refine zz_cV ok rfl trivial rfl lk_Mo_174 ca_Mo_setLink rfl rfl rfl rfl rfl (sp_Mo_setLink hG ?_)
      try simp +decide only [mi7 (a := k) (by omega), mi7p (a := k) (by omega)]
      refine zz_i ok rfl trivial rfl rfl ?_
      first | (exfalso; clear h hm hd hG; simp_all; done) | exact zz_pq h (by simp [m_do, h42_97, h42_98, h42_99, h42_100, h42_101, h42_102, h42_103, h42_104, h42_105, h42_106, h42_107, h218]) (by simp [m_do, h42_97, h42_98, h42_99, h42_100, h42_101, h42_102, h42_103, h42_104, h42_105, h42_106, h42_107, h218])
    · skip
      try simp +decide only [mi7 (a := k) (by omega), mi7p (a := k) (by omega)] at h218 ⊢
      refine zz_cV ok rfl trivial rfl lk_Mo_174 ca_Mo_setLink rfl rfl rfl rfl rfl (sp_Mo_setLink hG ?_)
      try simp +decide only [mi7 (a := k) (by omega), mi7p (a := k) (by omega)]
      refine zz_i ok rfl trivial rfl rfl ?_
      first | (exfalso; clear h hm hd hG; simp_all; done) | exact zz_pq h (by simp [m_do, h42_97, h42_98, h42_99, h42_100, h42_101, h42_102, h42_103, h42_104, h42_105, h42_106, h42_107, h218]) (by simp [m_do, h42_97, h42_98, h42_99, h42_100, h42_101, h42_102, h42_103, h42_104, h42_105, h42_106, h42_107, h218])
  refine ⟨fun h42_108 => ?_, fun h42_108 => ?_⟩
  · skip
    refine zz_b ok rfl (by and_intros <;> first | exact True.intro | with_reducible exact vi7 (by omega) (by decide) | with_reducible exact vi7p (by omega) (by decide)) rfl (fun h218 => ?_) (fun h218 => ?_)
    · skip
      try simp +decide only [mi7 (a := k) (by omega), mi7p (a := k) (by omega)] at h218 ⊢
      refine zz_cV ok rfl trivial rfl lk_Mo_174 ca_Mo_setLink rfl rfl rfl rfl rfl (sp_Mo_setLink hG ?_)
      try simp +decide only [mi7 (a := k) (by omega), mi7p (a := k) (by omega)]
      refine zz_i ok rfl trivial rfl rfl ?_
      first | (exfalso; clear h hm hd hG; simp_all; done) | exact zz_pq h (by simp [m_do, h42_97, h42_98, h42_99, h42_100, h42_101, h42_102, h42_103, h42_104, h42_105, h42_106, h42_107, h42_108, h218]) (by simp [m_do, h42_97, h42_98, h42_99, h42_100, h42_101, h42_102, h42_103, h42_104, h42_105, h42_106, h42_107, h42_108, h218])
    · skip
      try simp +decide only [mi7 (a := k) (by omega), mi7p (a := k) (by omega)] at h218 ⊢
      refine zz_cV ok rfl trivial rfl lk_Mo_174 ca_Mo_setLink rfl rfl rfl rfl rfl (sp_Mo_setLink hG ?_)
      try simp +decide only [mi7 (a := k) (by omega), mi7p (a := k) (by omega)]
      refine zz_i ok rfl trivial rfl rfl ?_
      first | (exfalso; clear h hm hd hG; simp_all; done) | exact zz_pq h (by simp [m_do, h42_97, h42_98, h42_99, h42_100, h42_101, h42_102, h42_103, h42_104, h42_105, h42_106, h42_107, h42_108, h218]) (by simp [m_do, h42_97, h42_98, h42_99, h42_100, h42_101, h42_102, h42_103, h42_104, h42_105, h42_106, h42_107, h42_108, h218])
  refine ⟨fun h42_109 => ?_, fun h42_109 => ?_⟩
  · skip
    refine zz_b ok rfl (by and_intros <;> first | exact True.intro | with_reducible exact vi7 (by omega) (by decide) | with_reducible exact vi7p (by omega) (by decide)) rfl (fun h218 => ?_) (fun h218 => ?_)
    · skip
      try simp +decide only [mi7 (a := k) (by omega), mi7p (a := k) (by omega)] at h218 ⊢
      refine zz_cV ok rfl trivial rfl lk_Mo_174 ca_Mo_setLink rfl rfl rfl rfl rfl (sp_Mo_setLink hG ?_)
      try simp +decide only [mi7 (a := k) (by omega), mi7p (a := k) (by omega)]
      refine zz_i ok rfl trivial rfl rfl ?_
      first | (exfalso; clear h hm hd hG; simp_all; done) | exact zz_pq h (by simp [m_do, h42_97, h42_98, h42_99, h42_100, h42_101, h42_102, h42_103, h42_104, h42_105, h42_106, h42_107, h42_108, h42_109, h218]) (by simp [m_do, h42_97, h42_98, h42_99, h42_100, h42_101, h42_102, h42_103, h42_104, h42_105, h42_106, h42_107, h42_108, h42_109, h218])
    · skip
      try simp +decide only [mi7 (a := k) (by omega), mi7p (a := k) (by omega)] at h218 ⊢
      refine zz_cV ok rfl trivial rfl lk_Mo_174 ca_Mo_setLink rfl rfl rfl rfl rfl (sp_Mo_setLink hG ?_)
      try simp +decide only [mi7 (a := k) (by omega), mi7p (a := k) (by omega)]
      refine zz_i ok rfl trivial rfl rfl ?_
      first | (exfalso; clear h hm hd hG; simp_all; done) | exact zz_pq h (by simp [m_do, h42_97, h42_98, h42_99, h42_100, h42_101, h42_102, h42_103, h42_104, h42_105, h42_106, h42_107, h42_108, h42_109, h218]) (by simp [m_do, h42_97, h42_98, h42_99, h42_100, h42_101, h42_102, h42_103, h42_104, h42_105, h42_106, h42_107, h42_108, h42_109, h218])
  refine ⟨fun h42_110 => ?_, fun h42_110 => ?_⟩
  · skip
    refine zz_b ok rfl (by and_intros <;> first | exact True.intro | with_reducible exact vi7 (by omega) (by decide) | with_reducible exact vi7p (by omega) (by decide)) rfl (fun h218 => ?_) (fun h218 => ?_)
    · skip
      try simp +decide only [mi7 (a := k) (by omega), mi7p (a := k) (by omega)] at h218 ⊢
      refine zz_cV ok rfl trivial rfl lk_Mo_174 ca_Mo_setLink rfl rfl rfl rfl rfl (sp_Mo_setLink hG ?_)
      try simp +decide only [mi7 (a := k) (by omega), mi7p (a := k) (by omega)]
      refine zz_i ok rfl trivial rfl rfl ?_
      first | (exfalso; clear h hm hd hG; simp_all; done) | exact zz_pq h (by simp [m_do, h42_97, h42_98, h42_99, h42_100, h42_101, h42_102, h42_103, h42_104, h42_105, h42_106, h42_107, h42_108, h42_109, h42_110, h218]) (by simp [m_do, h42_97, h42_98, h42_99, h42_100, h42_101, h42_102, h42_103, h42_104, h42_105, h42_106, h42_107, h42_108, h42_109, h42_110, h218])
    · skip
      try simp +decide only [mi7 (a := k) (by omega), mi7p (a := k) (by omega)] at h218 ⊢
      refine zz_cV ok rfl trivial rfl lk_Mo_174 ca_Mo_setLink rfl rfl rfl rfl rfl (sp_Mo_setLink hG ?_)
      try simp +decide only [mi7 (a := k) (by omega), mi7p (a := k) (by omega)]
      refine zz_i ok rfl trivial rfl rfl ?_
      first | (exfalso; clear h hm hd hG; simp_all; done) | exact zz_pq h (by simp [m_do, h42_97, h42_98, h42_99, h42_100, h42_101, h42_102, h42_103, h42_104, h42_105, h42_106, h42_107, h42_108, h42_109, h42_110, h218]) (by simp [m_do, h42_97, h42_98, h42_99, h42_100, h42_101, h42_102, h42_103, h42_104, h42_105, h42_106, h42_107, h42_108, h42_109, h42_110, h218])
  refine ⟨fun h42_111 => ?_, fun h42_111 => ?_⟩
  · skip
    refine zz_b ok rfl (by and_intros <;> first | exact True.intro | with_reducible exact vi7 (by omega) (by decide) | with_reducible exact vi7p (by omega) (by decide)) rfl (fun h218 => ?_) (fun h218 => ?_)
    · skip
      try simp +decide only [mi7 (a := k) (by omega), mi7p (a := k) (by omega)] at h218 ⊢
      refine zz_cV ok rfl trivial rfl lk_Mo_174 ca_Mo_setLink rfl rfl rfl rfl rfl (sp_Mo_setLink hG ?_)
      try simp +decide only [mi7 (a := k) (by omega), mi7p (a := k) (by omega)]
      refine zz_i ok rfl trivial rfl rfl ?_
      first | (exfalso; clear h hm hd hG; simp_all; done) | exact zz_pq h (by simp [m_do, h42_97, h42_98, h42_99, h42_100, h42_101, h42_102, h42_103, h42_104, h42_105, h42_106, h42_107, h42_108, h42_109, h42_110, h42_111, h218]) (by simp [m_do, h42_97, h42_98, h42_99, h42_100, h42_101, h42_102, h42_103, h42_104, h42_105, h42_106, h42_107, h42_108, h42_109, h42_110, h42_111, h218])
    · skip
      try simp +decide only [mi7 (a := k) (by omega), mi7p (a := k) (by omega)] at h218 ⊢
      refine zz_cV ok rfl trivial rfl lk_Mo_174 ca_Mo_setLink rfl rfl rfl rfl rfl (sp_Mo_setLink hG ?_)
      try simp +decide only [mi7 (a := k) (by omega), mi7p (a := k) (by omega)]
      refine zz_i ok rfl trivial rfl rfl ?_
      first | (exfalso; clear h hm hd hG; simp_all; done) | exact zz_pq h (by simp [m_do, h42_97, h42_98, h42_99, h42_100, h42_101, h42_102, h42_103, h42_104, h42_105, h42_106, h42_107, h42_108, h42_109, h42_110, h42_111, h218]) (by simp [m_do, h42_97, h42_98, h42_99, h42_100, h42_101, h42_102, h42_103, h42_104, h42_105, h42_106, h42_107, h42_108, h42_109, h42_110, h42_111, h218])
  refine ⟨fun h42_112 => ?_, fun h42_112 => ?_⟩
  · skip
    refine zz_cV ok rfl trivial rfl lk_Mo_168 ca_Mo_pass rfl rfl rfl rfl rfl (sp_Mo_pass hm hG ?_)
    try simp +decide only [mi7 (a := k) (by omega), mi7p (a := k) (by omega)]
    refine zz_i ok rfl trivial rfl rfl ?_
    first | (exfalso; clear h hm hd hG; simp_all; done) | exact zz_pq h (by simp [m_do, h42_97, h42_98, h42_99, h42_100, h42_101, h42_102, h42_103, h42_104, h42_105, h42_106, h42_107, h42_108, h42_109, h42_110, h42_111, h42_112]) (by simp [m_do, h42_97, h42_98, h42_99, h42_100, h42_101, h42_102, h42_103, h42_104, h42_105, h42_106, h42_107, h42_108, h42_109, h42_110, h42_111, h42_112])
  refine ⟨fun h42_113 => ?_, fun h42_113 => ?_⟩
  · skip
    refine zz_b ok rfl (by and_intros <;> first | exact True.intro | with_reducible exact vi7 (by omega) (by decide) | with_reducible exact vi7p (by omega) (by decide)) rfl (fun h218 => ?_) (fun h218 => ?_)
    · skip
      try simp +decide only [mi7 (a := k) (by omega), mi7p (a := k) (by omega)] at h218 ⊢
      refine zz_cV ok rfl trivial rfl lk_Mo_174 ca_Mo_setLink rfl rfl rfl rfl rfl (sp_Mo_setLink hG ?_)
      try simp +decide only [mi7 (a := k) (by omega), mi7p (a := k) (by omega)]
      refine zz_i ok rfl trivial rfl rfl ?_
      first | (exfalso; clear h hm hd hG; simp_all; done) | exact zz_pq h (by simp [m_do, h42_97, h42_98, h42_99, h42_100, h42_101, h42_102, h42_103, h42_104, h42_105, h42_106, h42_107, h42_108, h42_109, h42_110, h42_111, h42_112, h42_113, h218]) (by simp [m_do, h42_97, h42_98, h42_99, h42_100, h42_101, h42_102, h42_103, h42_104, h42_105, h42_106, h42_107, h42_108, h42_109, h42_110, h42_111, h42_112, h42_113, h218])
    · skip
      try simp +decide only [mi7 (a := k) (by omega), mi7p (a := k) (by omega)] at h218 ⊢
      refine zz_cV ok rfl trivial rfl lk_Mo_174 ca_Mo_setLink rfl rfl rfl rfl rfl (sp_Mo_setLink hG ?_)
      try simp +decide only [mi7 (a := k) (by omega), mi7p (a := k) (by omega)]
      refine zz_i ok rfl trivial rfl rfl ?_
      first | (exfalso; clear h hm hd hG; simp_all; done) | exact zz_pq h (by simp [m_do, h42_97, h42_98, h42_99, h42_100, h42_101, h42_102, h42_103, h42_104, h42_105, h42_106, h42_107, h42_108, h42_109, h42_110, h42_111, h42_112, h42_113, h218]) (by simp [m_do, h42_97, h42_98, h42_99, h42_100, h42_101, h42_102, h42_103, h42_104, h42_105, h42_106, h42_107, h42_108, h42_109, h42_110, h42_111, h42_112, h42_113, h218])
  refine ⟨fun h42_114 => ?_, fun h42_114 => ?_⟩
  · skip
    refine zz_cV ok rfl trivial rfl lk_Mo_153 ca_Mo_renew rfl rfl rfl rfl rfl (sp_Mo_renew hm hG ?_)
    try simp +decide only [mi7 (a := k) (by omega), mi7p (a := k) (by omega)]
    refine zz_i ok rfl trivial rfl rfl ?_
    first | (exfalso; clear h hm hd hG; simp_all; done) | exact zz_pq h (by simp [m_do, h42_97, h42_98, h42_99, h42_100, h42_101, h42_102, h42_103, h42_104, h42_105, h42_106, h42_107, h42_108, h42_109, h42_110, h42_111, h42_112, h42_113, h42_114]) (by simp [m_do, h42_97, h42_98, h42_99, h42_100, h42_101, h42_102, h42_103, h42_104, h42_105, h42_106, h42_107, h42_108, h42_109, h42_110, h42_111, h42_112, h42_113, h42_114])
  refine ⟨fun h42_115 => ?_, fun h42_115 => ?_⟩
  · skip
    refine zz_cV ok rfl trivial rfl lk_Mo_171 ca_Mo_setState rfl rfl rfl rfl rfl (sp_Mo_setState hG ?_)
    try simp +decide only [mi7 (a := k) (by omega), mi7p (a := k) (by omega)]
    refine zz_i ok rfl trivial rfl rfl ?_
    first | (exfalso; clear h hm hd hG; simp_all; done) | exact zz_pq h (by simp [m_do, h42_97, h42_98, h42_99, h42_100, h42_101, h42_102, h42_103, h42_104, h42_105, h42_106, h42_107, h42_108, h42_109, h42_110, h42_111, h42_112, h42_113, h42_114, h42_115]) (by simp [m_do, h42_97, h42_98, h42_99, h42_100, h42_101, h42_102, h42_103, h42_104, h42_105, h42_106, h42_107, h42_108, h42_109, h42_110, h42_111, h42_112, h42_113, h42_114, h42_115])
  refine ⟨fun h42_116 => ?_, fun h42_116 => ?_⟩
  · skip
    refine zz_b ok rfl (by and_intros <;> first | exact True.intro | with_reducible exact vi7 (by omega) (by decide) | with_reducible exact vi7p (by omega) (by decide)) rfl (fun h218 => ?_) (fun h218 => ?_)
    · skip
      try simp +decide only [mi7 (a := k) (by omega), mi7p (a := k) (by omega)] at h218 ⊢
      refine zz_cV ok rfl trivial rfl lk_Mo_174 ca_Mo_setLink rfl rfl rfl rfl rfl (sp_Mo_setLink hG ?_)
      try simp +decide only [mi7 (a := k) (by omega), mi7p (a := k) (by omega)]
      refine zz_i ok rfl trivial rfl rfl ?_
      first | (exfalso; clear h hm hd hG; simp_all; done) | exact zz_pq h (by simp [m_do, h42_97, h42_98, h42_99, h42_100, h42_101, h42_102, h42_103, h42_104, h42_105, h42_106, h42_107, h42_108, h42_109, h42_110, h42_111, h42_112, h42_113, h42_114, h42_115, h42_116, h218]) (by simp [m_do, h42_97, h42_98, h42_99, h42_100, h42_101, h42_102, h42_103, h42_104, h42_105, h42_106, h42_107, h42_108, h42_109, h42_110, h42_111, h42_112, h42_113, h42_114, h42_115, h42_116, h218])
    · skip
      try simp +decide only [mi7 (a := k) (by omega), mi7p (a := k) (by omega)] at h218 ⊢
      refine zz_cV ok rfl trivial rfl lk_Mo_174 ca_Mo_setLink rfl rfl rfl rfl rfl (sp_Mo_setLink hG ?_)
      try simp +decide only [mi7 (a := k) (by omega), mi7p (a := k) (by omega)]
      refine zz_i ok rfl trivial rfl rfl ?_
      first | (exfalso; clear h hm hd hG; simp_all; done) | exact zz_pq h (by simp [m_do, h42_97, h42_98, h42_99, h42_100, h42_101, h42_102, h42_103, h42_104, h42_105, h42_106, h42_107, h42_108, h42_109, h42_110, h42_111, h42_112, h42_113, h42_114, h42_115, h42_116, h218]) (by simp [m_do, h42_97, h42_98, h42_99, h42_100, h42_101, h42_102, h42_103, h42_104, h42_105, h42_106, h42_107, h42_108, h42_109, h42_110, h42_111, h42_112, h42_113, h42_114, h42_115, h42_116, h218])
  refine ⟨fun h42_117 => ?_, fun h42_117 => ?_⟩
  · skip
    refine zz_b ok rfl (by and_intros <;> first | exact True.intro | with_reducible exact vi7 (by omega) (by decide) | with_reducible exact vi7p (by omega) (by decide)) rfl (fun h218 => ?_) (fun h218 => ?_)
    · skip
      try simp +decide only [mi7 (a := k) (by omega), mi7p (a := k) (by omega)] at h218 ⊢
      refine zz_cV ok rfl trivial rfl lk_Mo_174 ca_Mo_setLink rfl rfl rfl rfl rfl (sp_Mo_setLink hG ?_)
      try simp +decide only [mi7 (a := k) (by omega), mi7p (a := k) (by omega)]
      refine zz_i ok rfl trivial rfl rfl ?_
      first | (exfalso; clear h hm hd hG; simp_all; done) | exact zz_pq h (by simp [m_do, h42_97, h42_98, h42_99, h42_100, h42_101, h42_102, h42_103, h42_104, h42_105, h42_106, h42_107, h42_108, h42_109, h42_110, h42_111, h42_112, h42_113, h42_114, h42_115, h42_116, h42_117, h218]) (by simp [m_do, h42_97, h42_98, h42_99, h42_100, h42_101, h42_102, h42_103, h42_104, h42_105, h42_106, h42_107, h42_108, h42_109, h42_110, h42_111, h42_112, h42_113, h42_114, h42_115, h42_116, h42_117, h218])
    · skip
      try simp +decide only [mi7 (a := k) (by omega), mi7p (a := k) (by omega)] at h218 ⊢
      refine zz_cV ok rfl trivial rfl lk_Mo_174 ca_Mo_setLink rfl rfl rfl rfl rfl (sp_Mo_setLink hG ?_)
      try simp +decide only [mi7 (a := k) (by omega), mi7p (a := k) (by omega)]
      refine zz_i ok rfl trivial rfl rfl ?_
      first | (exfalso; clear h hm hd hG; simp_all; done) | exact zz_pq h (by simp [m_do, h42_97, h42_98, h42_99, h42_100, h42_101, h42_102, h42_103, h42_104, h42_105, h42_106, h42_107, h42_108, h42_109, h42_110, h42_111, h42_112, h42_113, h42_114, h42_115, h42_116, h42_117, h218]) (by simp [m_do, h42_97, h42_98, h42_99, h42_100, h42_101, h42_102, h42_103, h42_104, h42_105, h42_106, h42_107, h42_108, h42_109, h42_110, h42_111, h42_112, h42_113, h42_114, h42_115, h42_116, h42_117, h218])
  refine ⟨fun h42_118 => ?_, fun h42_118 => ?_⟩
  · skip
    refine zz_b ok rfl (by and_intros <;> first | exact True.intro | with_reducible exact vi7 (by omega) (by decide) | with_reducible exact vi7p (by omega) (by decide)) rfl (fun h218 => ?_) (fun h218 => ?_)
    · skip
      try simp +decide only [mi7 (a := k) (by omega), mi7p (a := k) (by omega)] at h218 ⊢
      refine zz_cV ok rfl trivial rfl lk_Mo_174 ca_Mo_setLink rfl rfl rfl rfl rfl (sp_Mo_setLink hG ?_)
      try simp +decide only [mi7 (a := k) (by omega), mi7p (a := k) (by omega)]
      refine zz_i ok rfl trivial rfl rfl ?_
      first | (exfalso; clear h hm hd hG; simp_all; done) | exact zz_pq h (by simp [m_do, h42_97, h42_98, h42_99, h42_100, h42_101, h42_102, h42_103, h42_104, h42_105, h42_106, h42_107, h42_108, h42_109, h42_110, h42_111, h42_112, h42_113, h42_114, h42_115, h42_116, h42_117, h42_118, h218]) (by simp [m_do, h42_97, h42_98, h42_99, h42_100, h42_101, h42_102, h42_103, h42_104, h42_105, h42_106, h42_107, h42_108, h42_109, h42_110, h42_111, h42_112, h42_113, h42_114, h42_115, h42_116, h42_117, h42_118, h218])
    · skip
      try simp +decide only [mi7 (a := k) (by omega), mi7p (a := k) (by omega)] at h218 ⊢
      refine zz_cV ok rfl trivial rfl lk_Mo_174 ca_Mo_setLink rfl rfl rfl rfl rfl (sp_Mo_setLink hG ?_)
      try simp +decide only [mi7 (a := k) (by omega), mi7p (a := k) (by omega)]
      refine zz_i ok rfl trivial rfl rfl ?_
      first | (exfalso; clear h hm hd hG; simp_all; done) | exact zz_pq h (by simp [m_do, h42_97, h42_98, h42_99, h42_100, h42_101, h42_102, h42_103, h42_104, h42_105, h42_106, h42_107, h42_108, h42_109, h42_110, h42_111, h42_112, h42_113, h42_114, h42_115, h42_116, h42_117, h42_118, h218]) (by simp [m_do, h42_97, h42_98, h42_99, h42_100, h42_101, h42_102, h42_103, h42_104, h42_105, h42_106, h42_107, h42_108, h42_109, h42_110, h42_111, h42_112, h42_113, h42_114, h42_115, h42_116, h42_117, h42_118, h218])
  refine ⟨fun h42_119 => ?_, fun h42_119 => ?_⟩
  · skip
    refine zz_cV ok rfl trivial rfl lk_Mo_162 ca_Mo_write rfl rfl rfl rfl rfl (sp_Mo_write hm hd hG ?_)
    try simp +decide only [mi7 (a := k) (by omega), mi7p (a := k) (by omega)]
    refine zz_i ok rfl trivial rfl rfl ?_
    first | (exfalso; clear h hm hd hG; simp_all; done) | exact zz_pq h (by simp [m_do, h42_97, h42_98, h42_99, h42_100, h42_101, h42_102, h42_103, h42_104, h42_105, h42_106, h42_107, h42_108, h42_109, h42_110, h42_111, h42_112, h42_113, h42_114, h42_115, h42_116, h42_117, h42_118, h42_119]) (by simp [m_do, h42_97, h42_98, h42_99, h42_100, h42_101, h42_102, h42_103, h42_104, h42_105, h42_106, h42_107, h42_108, h42_109, h42_110, h42_111, h42_112, h42_113, h42_114, h42_115, h42_116, h42_117, h42_118, h42_119])
  refine zz_b ok rfl (by and_intros <;> first | exact True.intro | with_reducible exact vi7 (by omega) (by decide) | with_reducible exact vi7p (by omega) (by decide)) rfl (fun h218 => ?_) (fun h218 => ?_)
  · skip
    try simp +decide only [mi7 (a := k) (by omega), mi7p (a := k) (by omega)] at h218 ⊢
    refine zz_cV ok rfl trivial rfl lk_Mo_174 ca_Mo_setLink rfl rfl rfl rfl rfl (sp_Mo_setLink hG ?_)
    try simp +decide only [mi7 (a := k) (by omega), mi7p (a := k) (by omega)]
    refine zz_i ok rfl trivial rfl rfl ?_
    first | (exfalso; clear h hm hd hG; simp_all; done) | exact zz_pq h (by simp [m_do, h42_97, h42_98, h42_99, h42_100, h42_101, h42_102, h42_103, h42_104, h42_105, h42_106, h42_107, h42_108, h42_109, h42_110, h42_111, h42_112, h42_113, h42_114, h42_115, h42_116, h42_117, h42_118, h42_119, h218]) (by simp [m_do, h42_97, h42_98, h42_99, h42_100, h42_101, h42_102, h42_103, h42_104, h42_105, h42_106, h42_107, h42_108, h42_109, h42_110, h42_111, h42_112, h42_113, h42_114, h42_115, h42_116, h42_117, h42_118, h42_119, h218])
  · skip
    try simp +decide only [mi7 (a := k) (by omega), mi7p (a := k) (by omega)] at h218 ⊢
    refine zz_cV ok rfl trivial rfl lk_Mo_174 ca_Mo_setLink rfl rfl rfl rfl rfl (sp_Mo_setLink hG ?_)
    try simp +decide only [mi7 (a := k) (by omega), mi7p (a := k) (by omega)]
    refine zz_i ok rfl trivial rfl rfl ?_
    first | (exfalso; clear h hm hd hG; simp_all; done) | exact zz_pq h (by simp [m_do, h42_97, h42_98, h42_99, h42_100, h42_101, h42_102, h42_103, h42_104, h42_105, h42_106, h42_107, h42_108, h42_109, h42_110, h42_111, h42_112, h42_113, h42_114, h42_115, h42_116, h42_117, h42_118, h42_119, h218]) (by simp [m_do, h42_97, h42_98, h42_99, h42_100, h42_101, h42_102, h42_103, h42_104, h42_105, h42_106, h42_107, h42_108, h42_109, h42_110, h42_111, h42_112, h42_113, h42_114, h42_115, h42_116, h42_117, h42_118, h42_119, h218])
theorem sp_Mo_run {G : zG} {post : Option zV → zM → Prop} {M : zM} {n : Nat} (hl : M.1 (6, 0, 0) 5 = nI n) (hn : n ≤ 100) (hq : (m_rP M n).1 = true → ∀ k, k < mcal (m_rP M n).2 → mw (zz_it m_d1 k (m_rQ0 M n)) ∧ mdl (zz_it m_d1 k (m_rQ0 M n))) (hG : zz_go G) (h : post (some (.inl (m_run M n).1)) (m_run M n).2) : zz_T G md_Mo_run [.inr (.inr (6, 0, 0))] M post := by
  refine en_Mo_run hG rfl (fun Z ok => ?_)
  have hs0 : mps (zz_set (zz_set M (6, 0, 0) 10 0) (6, 0, 0) 9 0) (M.1 (23, 0, 0)) n 0 := by
    refine ⟨?_, ?_, ?_, ?_, ?_⟩
    · funext i; rw [zz_gs, if_neg (by simp), zz_gs, if_neg (by simp)]
    · rw [zz_gs, if_neg (by simp), zz_gs, if_neg (by simp)]; exact hl
    · rw [zz_gs, if_pos ⟨rfl, rfl⟩]; rfl
    · unfold mpos; rw [zz_gs, if_neg (by simp), zz_gs, if_pos ⟨rfl, rfl⟩]; rfl
    · unfold mpos; rw [zz_gs, if_neg (by simp), zz_gs, if_pos ⟨rfl, rfl⟩]; exact Nat.zero_le _
  refine zz_cV ok rfl trivial rfl lk_Mo_138 ca_Mo_skips rfl rfl rfl rfl rfl (sp_Mo_skips hG hs0.2.1 hn hs0.2.2.2.1 hs0.2.2.2.2 ?_)
  have lp14 : ∀ (f k : Nat), n - k < f → k ≤ n → ∀ (M' : zM), mps M' (M.1 (23, 0, 0)) n k → 3 * k ≤ mpos M' → m_rP M n = m_rl n (n + 1 - k) M' → zz_W G Z md_Mo_run post 14 [(0, .inr (.inr (6, 0, 0)))] [] M' := by
    intro f
    induction f with
    | zero => intro k hf; exact absurd hf (Nat.not_lt_zero _)
    | succ f ih => ?_
    intro k hf hk M' hs' h3 hP
    have hpn := hs'.2.2.2.2
    have hcx : mcal M' = k := ni_ix hs'.2.2.1 (by omega)
    refine zz_b ok rfl trivial rfl (fun h22 => ?_) (fun h22 => ?_)
    · skip
      rw [hs'.2.1, hs'.2.2.2.1, ni_ltn (by omega) (by omega)] at h22
      refine zz_cV ok rfl trivial rfl lk_Mo_178 ca_Mo_readsCall rfl rfl rfl rfl rfl (sp_Mo_readsCall hG hn (by omega) hs' ?_)
      refine zz_b ok rfl trivial rfl (fun h29 => ?_) (fun h29 => ?_)
      · skip
        simp only [zz_bi0] at h29
        have eP : m_rP M n = m_rdc M' n := by
          rw [hP, show n + 1 - k = (n + 1 - (k + 1)) + 1 by omega, m_rl, if_pos h22, if_neg (by simp [h29])]
        refine zz_i ok rfl trivial rfl rfl ?_
        unfold m_run at h
        rw [eP, if_pos h29] at h
        exact h
      · skip
        simp only [zz_bi0, Bool.not_eq_false] at h29
        refine zz_pm [0] rfl ?_
        have hr := (mps_rdc hn (by omega) hs').2 h29
        have hr2 := hr.1.2.2.2.2
        exact ih (k + 1) (by omega) (by omega) _ hr.1 (by omega) (by rw [hP, show n + 1 - k = (n + 1 - (k + 1)) + 1 by omega, m_rl, if_pos h22, if_pos h29])
    · skip
      rw [hs'.2.1, hs'.2.2.2.1, ni_ltn (by omega) (by omega)] at h22
      have eP : m_rP M n = (true, M') := by
        rw [hP, show n + 1 - k = (n - k) + 1 by omega, m_rl, if_neg h22]
      have hcP : mcal (m_rP M n).2 = k := by rw [eP]; exact hcx
      have lp51 : ∀ (g j : Nat), k - j < g → j ≤ k → ∀ (x1 : Int32) (A : zM), x1 = nI j → A = zz_it m_d1 j (m_rQ0 M n) → A.1 (6, 0, 0) 9 = nI k → zz_W G Z md_Mo_run post 51 [(1, .inl x1), (0, .inr (.inr (6, 0, 0)))] [] A := by
        intro g
        induction g with
        | zero => intro j hg; exact absurd hg (Nat.not_lt_zero _)
        | succ g ih2 => ?_
        intro j hg hj x1 A e1 eA hA9
        subst e1
        refine zz_b ok rfl trivial rfl (fun h56 => ?_) (fun h56 => ?_)
        · skip
          rw [hA9, ni_ltn (by omega) (by omega)] at h56
          have hqj := hq (by rw [eP]) j (by rw [hcP]; exact h56)
          rw [← eA] at hqj
          refine zz_cV ok rfl trivial rfl lk_Mo_185 ca_Mo_does rfl rfl rfl rfl rfl (sp_Mo_does hqj.1 hqj.2 hG rfl (by omega) ?_)
          refine zz_g ok rfl ⟨ni_in (by omega) (by decide), trivial⟩ ?_
          refine zz_pm [1, 0] rfl ?_
          exact ih2 (j + 1) (by omega) (by omega) _ _ (nI_1 j) (by rw [zz_it, ← eA, zz_ixn (by omega)]; rfl) (by rw [zz_ixn (by omega)]; exact (m_d1_fr (M := A) (k := j) (by decide) (by decide)).trans hA9)
        · skip
          rw [hA9, ni_ltn (by omega) (by omega)] at h56
          have hjk : j = k := by omega
          refine zz_i ok rfl trivial rfl rfl ?_
          unfold m_run m_rQ at h
          rw [hcP, if_neg (by rw [eP]; simp)] at h
          exact zz_pq h (by rw [hA9, eP]; dsimp only; rw [hs'.2.2.1]) (by rw [eA, hjk])
      refine zz_g ok rfl trivial ?_
      refine zz_pm [1, 0] rfl ?_
      exact lp51 (k + 1) 0 (by omega) (by omega) _ _ rfl (by rw [zz_it, m_rQ0, eP]) (by rw [zz_gs, if_neg (by simp)]; exact hs'.2.2.1)
  refine zz_pm [0] rfl ?_
  exact lp14 (n + 1) 0 (by omega) (by omega) _ (mps_skp hn hs0) (by omega) rfl
