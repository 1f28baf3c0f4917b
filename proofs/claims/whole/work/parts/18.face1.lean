abbrev nsv (a : Int32) : Prop := a < 0 ∨ 4 < a
def L_setClock (M : zM) (a b : Int32) : Int32 × zM := if nsv a ∨ b < -M.1 (4, 0, 0) 0 ∨ M.1 (4, 0, 0) 0 < b then (-1001, M) else (M.1 (3, 0, zz_ix a) 2, zz_set M (3, 0, zz_ix a) 2 b)
def L_clock (M : zM) (a w : Int32) : Int32 := if nsv a then -1001 else if w = 0 then c_rd M (zz_ix a) else if w = 1 then c_ea M (zz_ix a) else if w = 2 then c_la M (zz_ix a) else -1001
def c_tks (M : zM) : Nat → zM
  | 0 => M
  | k + 1 => c_tk (c_tks M k)
def L_pass (M : zM) (t : Int32) : Int32 × zM := if t < 1 ∨ 200 < t then (-1001, M) else if 100000 < M.1 (4, 0, 0) 9 + t then (-1003, M) else ((c_tks M (zz_ix t)).1 (4, 0, 0) 9, c_tks M (zz_ix t))
def L_setState (M : zM) (a x : Int32) : Int32 × zM := if nsv a ∨ x < 0 ∨ 2 < x then (-1001, M) else (M.1 (3, 0, zz_ix a) 3, se_enter M 0 (zz_ix a) x)
def L_setLink (M : zM) (a b u : Int32) : Int32 × zM := if nsv a ∨ nsv b ∨ a = b then (-1001, M) else (M.1 (10, 0, 0) (5 * zz_ix a + zz_ix b), zz_set (zz_set M (10, 0, 0) (5 * zz_ix a + zz_ix b) (if u = 0 then 0 else 1)) (10, 0, 0) (5 * zz_ix b + zz_ix a) (if u = 0 then 0 else 1))
def L_acquire (M : zM) (a d : Int32) : Int32 × zM := if nsv a ∨ d < 1 ∨ 100 < d then (-1001, M) else if ¬ M.1 (3, 0, zz_ix a) 3 = 0 ∨ c_ho M (zz_ix a) = true then (-1002, M) else c_el M (zz_ix a) d
def L_renew (M : zM) (a d : Int32) : Int32 × zM := if nsv a ∨ d < 1 ∨ 100 < d then (-1001, M) else if c_ho M (zz_ix a) = false then (-1002, M) else c_pr M (zz_ix a) d
def L_giveUp (M : zM) (a : Int32) : Int32 × zM := if nsv a then (-1001, M) else if c_ho M (zz_ix a) = false then (-1002, M) else ((c_ab M (zz_ix a)).2, (c_ab M (zz_ix a)).1)
def L_handOver (M : zM) (a b d : Int32) : Int32 × zM := if nsv a ∨ nsv b ∨ a = b ∨ d < 1 ∨ 100 < d then (-1001, M) else if c_ho M (zz_ix a) = false ∨ c_ac M (zz_ix a) (zz_ix b) = false then (-1002, M) else c_el (c_ab (c_sh M (zz_ix a) (zz_ix b) (M.1 (0, 0, zz_ix a) 1)) (zz_ix a)).1 (zz_ix b) d
def L_reason (M : zM) (a : Int32) : Int32 := if nsv a then -1001 else M.1 (11, 0, 0) (zz_ix a)
def L_holds (M : zM) (a : Int32) : Int32 := if nsv a then -1001 else if c_ho M (zz_ix a) = true then 1 else 0
def L_known (M : zM) (a w : Int32) : Int32 := if nsv a then -1001 else if w = 0 then M.1 (3, 0, zz_ix a) 4 else if w = 1 then M.1 (3, 0, zz_ix a) 5 else if w = 2 then M.1 (3, 0, zz_ix a) 6 else if w = 3 then M.1 (3, 0, zz_ix a) 7 else if w = 4 then M.1 (3, 0, zz_ix a) 8 else -1001
def L_write (M : zM) (a k v : Int32) : Int32 × zM := if nsv a ∨ (k < 0 ∨ 7 < k) ∨ (v < 0 ∨ 999 < v) then (-1001, M) else c_wr M (zz_ix a) k v
def L_barrier (M : zM) (a : Int32) : Int32 × zM := if nsv a then (-1001, M) else c_wr M (zz_ix a) (-1000) (-1000)
def wc (M : zM) (w : Nat) : Prop := ∀ s, s ≤ 5 → M.1 (0, w, s) 1 = nI (cmn M w s) ∧ cmn M w s ≤ rn M w s
def L_read (M : zM) (a k : Int32) : Int32 := if nsv a ∨ k < 0 ∨ 7 < k then -1001 else if c_ho M (zz_ix a) = false ∨ M.1 (0, 0, zz_ix a) 1 = 0 ∨ ¬ lo_last M 0 (zz_ix a) (cmn M 0 (zz_ix a)) 0 = M.1 (3, 0, zz_ix a) 7 then -1002 else lo_lv M 0 (zz_ix a) k 2147483647 (cmn M 0 (zz_ix a))
def L_readAt (M : zM) (a k t : Int32) : Int32 := if nsv a ∨ (k < 0 ∨ 7 < k) ∨ t < 0 then -1001 else if ¬ M.1 (3, 0, zz_ix a) 3 = 0 ∨ M.1 (0, 0, zz_ix a) 1 = 0 ∨ lo_last M 0 (zz_ix a) (cmn M 0 (zz_ix a)) 3 < t then -1002 else lo_lv M 0 (zz_ix a) k t (cmn M 0 (zz_ix a))
def L_log (M : zM) (a w : Int32) : Int32 := if nsv a then -1001 else if w = 0 then M.1 (1, 0, zz_ix a) 1 else if w = 1 then M.1 (0, 0, zz_ix a) 1 else if w = 2 then ro_last M 0 (zz_ix a) (rn M 0 (zz_ix a)) 0 0 else if w = 3 then lo_last M 0 (zz_ix a) (cmn M 0 (zz_ix a)) 3 else if w = 4 then M.1 (1, 0, 6 + zz_ix a) 1 else -1001
def L_entry (M : zM) (a i w : Int32) : Int32 := if nsv a ∨ (i < 0 ∨ M.1 (1, 0, zz_ix a) 1 - 1 < i) ∨ (w < 0 ∨ 3 < w) then -1001 else ro_get M 0 (zz_ix a) i (zz_ix w)
def L_agreement (M : zM) (a b : Int32) : Int32 := if nsv a ∨ nsv b then -1001 else nI (ro_shared M 0 (zz_ix a) 0 (zz_ix b) (min (rn M 0 (zz_ix a)) (rn M 0 (zz_ix b))))
def L_history (M : zM) (k i : Int32) : Int32 := if (k < 0 ∨ 7 < k) ∨ i < 0 then -1001 else lo_vo M 0 5 k i (cmn M 0 5) 0 0
def L_ack (M : zM) (i w : Int32) : Int32 := if i < 0 ∨ (w < 0 ∨ 3 < w) then -1001 else ro_get M 0 11 i (zz_ix w)
def L_send (M : zM) (a c v : Int32) : Int32 × zM := if nsv a ∨ (c < 0 ∨ 3 < c) ∨ (v < 0 ∨ 999 < v) then (-1001, M) else if c_ho M (zz_ix a) = false then (-1002, M) else if zz_rl 12 < (rn M 0 12 + 1) * 4 then (-1003, M) else ((ro_add M 0 12 (rn M 0 12) c v (M.1 (3, 0, zz_ix a) 7) 0).1 (1, 0, 12) 1 - 1, ro_add M 0 12 (rn M 0 12) c v (M.1 (3, 0, zz_ix a) 7) 0)
def L_deliver (M : zM) (k : Int32) : Int32 × zM := if k < 0 ∨ M.1 (1, 0, 12) 1 - 1 < k then (-1001, M) else if ¬ M.1 (7, 0, 12) (4 * zz_ix k + 3) = 0 then (-1002, M) else c_br M (zz_ix k)
def L_cell (M : zM) (c w : Int32) : Int32 := if c < 0 ∨ 3 < c then -1001 else if w = 0 then M.1 (12, 0, 0) (zz_ix c) else if w = 1 then M.1 (13, 0, 0) (zz_ix c) else -1001
def L_safeFor (M : zM) (a : Int32) : Int32 := if nsv a then -1001 else if c_ho M (zz_ix a) = true then M.1 (3, 0, zz_ix a) 8 - c_la M (zz_ix a) else 0
def L_waitFor (M : zM) (a : Int32) : Int32 := if nsv a then -1001 else c_tl M 0 (zz_ix a) 5
def L_type (M : zM) (n : Nat) (l : Int32) : Int32 × zM := if l < 0 ∨ 127 < l then (-1001, M) else if n < 100 then (nI (n + 1), sc_ap M n l) else (-1003, M)
def L_result (M : zM) (i : Int32) : Int32 := if i < 0 then -1001 else if i < M.1 (2, 0, 0) 6 ∧ i < 34 then M.1 (19, 0, 0) (zz_ix i) else -1000
theorem ni_wm {x sz : Int32} {n : Nat} (hz : sz = nI n) (hn : n < 2147483648) (h0 : ¬ x < 0) (h1 : ¬ sz - 1 < x) : ∃ i : Nat, i < n ∧ x = nI i := by
  rw [ni_lt] at h0 h1
  have e0 : (0 : Int32).toInt = 0 := rfl
  have e1 : (1 : Int32).toInt = 1 := rfl
  have en : sz.toInt = n := by rw [hz, ni_n hn]
  rw [ni_sub (by omega) (by omega)] at h1
  exact ni_of (by omega) (by omega)
theorem c_it2_wr {f : Nat → zM × Int32 → zM × Int32} (hf : ∀ k X, wr X.1 0 → wr (f k X).1 0) : ∀ (k : Nat) (X : zM × Int32), wr X.1 0 → wr (zz_it f k X).1 0
  | 0, _, h => h
  | k + 1, X, h => hf k _ (c_it2_wr hf k X h)
theorem c_ab_wr {M : zM} {s : Nat} (h : wr M 0) : wr (c_ab M s).1 0 := by
  unfold c_ab
  exact c_it2_wr (fun k X h => c_a1_wr h) 5 _ (wr_pl h)
theorem c_br01 (M : zM) (k : Nat) : (c_br M k).1 = 0 ∨ (c_br M k).1 = 1 := by
  unfold c_br; split
  · exact Or.inl rfl
  · exact Or.inr rfl
def L_count (M : zM) (w : Int32) : Int32 := if w = 0 then M.1 (4, 0, 0) 9 else if w = 1 then M.1 (4, 0, 0) 0 else if w = 2 then M.1 (0, 0, 5) 1 else if w = 3 then M.1 (1, 0, 11) 1 else if w = 4 then M.1 (4, 0, 0) 10 else if w = 5 then M.1 (1, 0, 12) 1 else if w = 6 then M.1 (4, 0, 0) 11 else if w = 7 then M.1 (2, 0, 0) 4 else if w = 8 then M.1 (2, 0, 0) 6 else if w = 9 then c_hs M 5 else if w = 10 then c_lo M 5 else -1001
theorem c_tk_wr {M : zM} (h : wr M 0) : wr (c_tk M) 0 := by
  unfold c_tk
  exact c_it_wr (f := c_tk1) (N := 5) (fun k M hk h => c_tk1_wr hk h) 5 _ (Nat.le_refl 5) (wr_set rfl h)
theorem c_tks_wr {M : zM} (h : wr M 0) : ∀ k, wr (c_tks M k) 0
  | 0 => h
  | k + 1 => by
    unfold c_tks
    exact c_tk_wr (c_tks_wr h k)
theorem sp_Le_setClock {G : zG} {post : Option zV → zM → Prop} {M : zM} {a b : Int32} (hG : zz_go G) (h : post (some (.inl (L_setClock M a b).1)) (L_setClock M a b).2) : zz_T G md_Le_setClock [.inr (.inr (5, 0, 0)), .inl a, .inl b] M post := by
  refine en_Le_setClock hG rfl (fun Z ok => ?_)
  refine zz_cS ok rfl trivial rfl lk_Le_42 ca_Le_isServer rfl rfl rfl (sp_Le_isServer hG ?_)
  refine zz_b ok rfl trivial rfl (fun h4 => ?_) (fun h4 => ?_)
  · skip
    have h4 := wi_of h4
    refine zz_i ok rfl trivial rfl rfl ?_
    exact zz_pq h (by simp [L_setClock, nsv, h4]) (by simp [L_setClock, nsv, h4])
  · skip
    have h4 := wi_nof h4
    obtain ⟨s, hs, rfl⟩ := ni_w (N := 4) (by decide) h4.1 h4.2
    have es := ni_e5 hs
    refine zz_cS ok rfl trivial rfl lk_Le_50 ca_Le_isWithin rfl rfl rfl (sp_Le_isWithin hG ?_)
    refine zz_b ok rfl trivial rfl (fun h26 => ?_) (fun h26 => ?_)
    · skip
      have h26 := wi_of h26
      refine zz_i ok rfl trivial rfl rfl ?_
      exact zz_pq h (by simp [L_setClock, nsv, es, h4, h26]) (by simp [L_setClock, nsv, es, h4, h26])
    · skip
      have h26 := wi_nof h26
      refine zz_i ok rfl (by and_intros <;> first | trivial | exact ni_5 hs | exact ni_5 hv) rfl rfl ?_
      exact zz_pq h (by simp [L_setClock, nsv, es, h4, h26]) (by simp [L_setClock, nsv, es, h4, h26])
theorem sp_Le_clock {G : zG} {post : Option zV → zM → Prop} {M : zM} {a w : Int32} (hG : zz_go G) (h : post (some (.inl (L_clock M a w))) M) : zz_T G md_Le_clock [.inr (.inr (5, 0, 0)), .inl a, .inl w] M post := by
  refine en_Le_clock hG rfl (fun Z ok => ?_)
  refine zz_cS ok rfl trivial rfl lk_Le_42 ca_Le_isServer rfl rfl rfl (sp_Le_isServer hG ?_)
  refine zz_b ok rfl trivial rfl (fun h4 => ?_) (fun h4 => ?_)
  · skip
    have h4 := wi_of h4
    refine zz_i ok rfl trivial rfl rfl ?_
    exact zz_pq h (by simp [L_clock, nsv, h4]) rfl
  · skip
    have h4 := wi_nof h4
    obtain ⟨s, hs, rfl⟩ := ni_w (N := 4) (by decide) h4.1 h4.2
    have es := ni_e5 hs
    refine zz_g ok rfl trivial ?_
    refine zz_tsw ok sw_Le_clock_12 [(0, 40), (1, 49), (2, 58)] 67 (by decide +kernel) ?_
    refine ⟨fun h12_0 => ?_, fun h12_0 => ?_⟩
    · skip
      refine zz_cV ok rfl trivial rfl lk_Le_63 ca_Wo_reading rfl rfl rfl rfl rfl (sp_Wo_reading hG rfl hs ?_)
      refine zz_i ok rfl trivial rfl rfl ?_
      exact zz_pq h (by simp [L_clock, nsv, es, h4, h12_0]) rfl
    refine ⟨fun h12_1 => ?_, fun h12_1 => ?_⟩
    · skip
      refine zz_cV ok rfl trivial rfl lk_Le_67 ca_Wo_earliest rfl rfl rfl rfl rfl (sp_Wo_earliest hG rfl hs ?_)
      refine zz_i ok rfl trivial rfl rfl ?_
      exact zz_pq h (by simp [L_clock, nsv, es, h4, h12_0, h12_1]) rfl
    refine ⟨fun h12_2 => ?_, fun h12_2 => ?_⟩
    · skip
      refine zz_cV ok rfl trivial rfl lk_Le_70 ca_Wo_latest rfl rfl rfl rfl rfl (sp_Wo_latest hG rfl hs ?_)
      refine zz_i ok rfl trivial rfl rfl ?_
      exact zz_pq h (by simp [L_clock, nsv, es, h4, h12_0, h12_1, h12_2]) rfl
    refine zz_i ok rfl trivial rfl rfl ?_
    exact zz_pq h (by simp [L_clock, nsv, es, h4, h12_0, h12_1, h12_2]) rfl
theorem sp_Le_setState {G : zG} {post : Option zV → zM → Prop} {M : zM} {a x : Int32} (hG : zz_go G) (h : post (some (.inl (L_setState M a x).1)) (L_setState M a x).2) : zz_T G md_Le_setState [.inr (.inr (5, 0, 0)), .inl a, .inl x] M post := by
  refine en_Le_setState hG rfl (fun Z ok => ?_)
  refine zz_cS ok rfl trivial rfl lk_Le_42 ca_Le_isServer rfl rfl rfl (sp_Le_isServer hG ?_)
  refine zz_b ok rfl trivial rfl (fun h4 => ?_) (fun h4 => ?_)
  · skip
    have h4 := wi_of h4
    refine zz_i ok rfl trivial rfl rfl ?_
    exact zz_pq h (by simp [L_setState, nsv, h4]) (by simp [L_setState, nsv, h4])
  · skip
    have h4 := wi_nof h4
    obtain ⟨s, hs, rfl⟩ := ni_w (N := 4) (by decide) h4.1 h4.2
    have es := ni_e5 hs
    refine zz_cS ok rfl trivial rfl lk_Le_50 ca_Le_isWithin rfl rfl rfl (sp_Le_isWithin hG ?_)
    refine zz_b ok rfl trivial rfl (fun h13 => ?_) (fun h13 => ?_)
    · skip
      have h13 := wi_of h13
      refine zz_i ok rfl trivial rfl rfl ?_
      exact zz_pq h (by simp [L_setState, nsv, es, h4, h13]) (by simp [L_setState, nsv, es, h4, h13])
    · skip
      have h13 := wi_nof h13
      refine zz_cV ok rfl (by and_intros <;> first | trivial | exact ni_5 hs | exact ni_5 hv) rfl lk_Le_83 ca_Se_enter rfl rfl rfl rfl rfl (sp_Se_enter hG ?_)
      refine zz_i ok rfl trivial rfl rfl ?_
      exact zz_pq h (by simp [L_setState, nsv, es, h4, h13]) (by simp [L_setState, nsv, es, h4, h13])
theorem sp_Le_setLink {G : zG} {post : Option zV → zM → Prop} {M : zM} {a b u : Int32} (hG : zz_go G) (h : post (some (.inl (L_setLink M a b u).1)) (L_setLink M a b u).2) : zz_T G md_Le_setLink [.inr (.inr (5, 0, 0)), .inl a, .inl b, .inl u] M post := by
  refine en_Le_setLink hG rfl (fun Z ok => ?_)
  refine zz_cS ok rfl trivial rfl lk_Le_42 ca_Le_isServer rfl rfl rfl (sp_Le_isServer hG ?_)
  refine zz_b ok rfl trivial rfl (fun h4 => ?_) (fun h4 => ?_)
  · skip
    have h4 := wi_of h4
    refine zz_i ok rfl trivial rfl rfl ?_
    exact zz_pq h (by simp [L_setLink, nsv, h4]) (by simp [L_setLink, nsv, h4])
  · skip
    have h4 := wi_nof h4
    obtain ⟨s, hs, rfl⟩ := ni_w (N := 4) (by decide) h4.1 h4.2
    have es := ni_e5 hs
    refine zz_cS ok rfl trivial rfl lk_Le_42 ca_Le_isServer rfl rfl rfl (sp_Le_isServer hG ?_)
    refine zz_b ok rfl trivial rfl (fun h11 => ?_) (fun h11 => ?_)
    · skip
      have h11 := wi_of h11
      refine zz_i ok rfl trivial rfl rfl ?_
      exact zz_pq h (by simp [L_setLink, nsv, h4, h11]) (by simp [L_setLink, nsv, h4, h11])
    · skip
      have h11 := wi_nof h11
      obtain ⟨v, hv, rfl⟩ := ni_w (N := 4) (by decide) h11.1 h11.2
      have ev := ni_e5 hv
      refine zz_b ok rfl trivial rfl (fun h16 => ?_) (fun h16 => ?_)
      · skip
        refine zz_i ok rfl trivial rfl rfl ?_
        exact zz_pq h (by simp [L_setLink, nsv, h4, h11, h16]) (by simp [L_setLink, nsv, h4, h11, h16])
      · skip
        have h16 := h16
        refine zz_b ok rfl (by and_intros <;> first | trivial | exact ni_inx (ni_25 hs hv) (by omega) (by decide) | exact ni_inx (ni_25 hv hs) (by omega) (by decide)) rfl (fun h39 => ?_) (fun h39 => ?_)
        · skip
          subst h39
          refine zz_i ok rfl (by and_intros <;> first | trivial | exact ni_inx (ni_25 hs hv) (by omega) (by decide) | exact ni_inx (ni_25 hv hs) (by omega) (by decide)) rfl rfl ?_
          refine zz_pq h ?_ ?_
          · rw [ni_25 hs hv, zz_ixn (by omega)]; simp [L_setLink, nsv, es, ev, h4, h11, h16]
          · rw [ni_25 hs hv, ni_25 hv hs, zz_ixn (by omega), zz_ixn (by omega)]; simp [L_setLink, nsv, es, ev, h4, h11, h16]
        · skip
          refine zz_i ok rfl (by and_intros <;> first | trivial | exact ni_inx (ni_25 hs hv) (by omega) (by decide) | exact ni_inx (ni_25 hv hs) (by omega) (by decide)) rfl rfl ?_
          refine zz_pq h ?_ ?_
          · rw [ni_25 hs hv, zz_ixn (by omega)]; simp [L_setLink, nsv, es, ev, h4, h11, h16]
          · rw [ni_25 hs hv, ni_25 hv hs, zz_ixn (by omega), zz_ixn (by omega)]; simp [L_setLink, nsv, es, ev, h4, h11, h16, h39]
theorem sp_Le_acquire {G : zG} {post : Option zV → zM → Prop} {M : zM} {a d : Int32} (hw : wr M 0) (hG : zz_go G) (h : post (some (.inl (L_acquire M a d).1)) (L_acquire M a d).2) : zz_T G md_Le_acquire [.inr (.inr (5, 0, 0)), .inl a, .inl d] M post := by
  refine en_Le_acquire hG rfl (fun Z ok => ?_)
  refine zz_cS ok rfl trivial rfl lk_Le_42 ca_Le_isServer rfl rfl rfl (sp_Le_isServer hG ?_)
  try simp only [es]
  refine zz_b ok rfl trivial rfl (fun h4 => ?_) (fun h4 => ?_)
  · skip
    try simp only [es] at h4 ⊢
    have h4 := wi_of h4
    refine zz_i ok rfl trivial rfl rfl ?_
    exact zz_pq h (by simp [L_acquire, nsv, h4]) (by simp [L_acquire, nsv, h4])
  · skip
    try simp only [es] at h4 ⊢
    have h4 := wi_nof h4
    obtain ⟨s, hs, rfl⟩ := ni_w (N := 4) (by decide) h4.1 h4.2
    have es := ni_e5 hs
    refine zz_cS ok rfl trivial rfl lk_Le_90 ca_Le_isDuration rfl rfl rfl (sp_Le_isDuration hG ?_)
    try simp only [es]
    refine zz_b ok rfl trivial rfl (fun h11 => ?_) (fun h11 => ?_)
    · skip
      try simp only [es] at h11 ⊢
      have h11 := wi_of h11
      refine zz_i ok rfl trivial rfl rfl ?_
      exact zz_pq h (by simp [L_acquire, nsv, es, h4, h11]) (by simp [L_acquire, nsv, es, h4, h11])
    · skip
      try simp only [es] at h11 ⊢
      have h11 := wi_nof h11
      refine zz_b ok rfl (by and_intros <;> first | trivial | exact ni_5 hs | exact ni_5 hv) rfl (fun h30 => ?_) (fun h30 => ?_)
      · skip
        try simp only [es] at h30 ⊢
        refine zz_cV ok rfl trivial rfl lk_Le_93 ca_Wo_isHolder rfl rfl rfl rfl rfl (sp_Wo_isHolder hG rfl hs ?_)
        try simp only [es]
        refine zz_b ok rfl trivial rfl (fun h41 => ?_) (fun h41 => ?_)
        · skip
          try simp only [es] at h41 ⊢
          simp only [zz_bi0, Bool.not_eq_false] at h41
          refine zz_cV ok rfl trivial rfl lk_Le_96 ca_Wo_elect rfl rfl rfl rfl rfl (sp_Wo_elect hG rfl hs hw ?_)
          try simp only [es]
          refine zz_i ok rfl trivial rfl rfl ?_
          exact zz_pq h (by simp [L_acquire, nsv, es, h4, h11, h30, h41]) (by simp [L_acquire, nsv, es, h4, h11, h30, h41])
        · skip
          try simp only [es] at h41 ⊢
          simp only [zz_bi0, Bool.not_eq_false] at h41
          refine zz_i ok rfl trivial rfl rfl ?_
          exact zz_pq h (by simp [L_acquire, nsv, es, h4, h11, h30, h41]) (by simp [L_acquire, nsv, es, h4, h11, h30, h41])
      · skip
        try simp only [es] at h30 ⊢
        refine zz_i ok rfl trivial rfl rfl ?_
        exact zz_pq h (by simp [L_acquire, nsv, es, h4, h11, h30]) (by simp [L_acquire, nsv, es, h4, h11, h30])
theorem sp_Le_renew {G : zG} {post : Option zV → zM → Prop} {M : zM} {a d : Int32} (hw : wr M 0) (hG : zz_go G) (h : post (some (.inl (L_renew M a d).1)) (L_renew M a d).2) : zz_T G md_Le_renew [.inr (.inr (5, 0, 0)), .inl a, .inl d] M post := by
  refine en_Le_renew hG rfl (fun Z ok => ?_)
  refine zz_cS ok rfl trivial rfl lk_Le_42 ca_Le_isServer rfl rfl rfl (sp_Le_isServer hG ?_)
  try simp only [es]
  refine zz_b ok rfl trivial rfl (fun h4 => ?_) (fun h4 => ?_)
  · skip
    try simp only [es] at h4 ⊢
    have h4 := wi_of h4
    refine zz_i ok rfl trivial rfl rfl ?_
    exact zz_pq h (by simp [L_renew, nsv, h4]) (by simp [L_renew, nsv, h4])
  · skip
    try simp only [es] at h4 ⊢
    have h4 := wi_nof h4
    obtain ⟨s, hs, rfl⟩ := ni_w (N := 4) (by decide) h4.1 h4.2
    have es := ni_e5 hs
    refine zz_cS ok rfl trivial rfl lk_Le_90 ca_Le_isDuration rfl rfl rfl (sp_Le_isDuration hG ?_)
    try simp only [es]
    refine zz_b ok rfl trivial rfl (fun h11 => ?_) (fun h11 => ?_)
    · skip
      try simp only [es] at h11 ⊢
      have h11 := wi_of h11
      refine zz_i ok rfl trivial rfl rfl ?_
      exact zz_pq h (by simp [L_renew, nsv, es, h4, h11]) (by simp [L_renew, nsv, es, h4, h11])
    · skip
      try simp only [es] at h11 ⊢
      have h11 := wi_nof h11
      refine zz_cV ok rfl trivial rfl lk_Le_93 ca_Wo_isHolder rfl rfl rfl rfl rfl (sp_Wo_isHolder hG rfl hs ?_)
      try simp only [es]
      refine zz_b ok rfl trivial rfl (fun h26 => ?_) (fun h26 => ?_)
      · skip
        try simp only [es] at h26 ⊢
        simp only [zz_bi0, Bool.not_eq_false] at h26
        refine zz_i ok rfl trivial rfl rfl ?_
        exact zz_pq h (by simp [L_renew, nsv, es, h4, h11, h26]) (by simp [L_renew, nsv, es, h4, h11, h26])
      · skip
        try simp only [es] at h26 ⊢
        simp only [zz_bi0, Bool.not_eq_false] at h26
        refine zz_cV ok rfl trivial rfl lk_Le_99 ca_Wo_prolong rfl rfl rfl rfl rfl (sp_Wo_prolong hG rfl hs hw ?_)
        try simp only [es]
        refine zz_i ok rfl trivial rfl rfl ?_
        exact zz_pq h (by simp [L_renew, nsv, es, h4, h11, h26]) (by simp [L_renew, nsv, es, h4, h11, h26])
theorem sp_Le_giveUp {G : zG} {post : Option zV → zM → Prop} {M : zM} {a : Int32} (hG : zz_go G) (h : post (some (.inl (L_giveUp M a).1)) (L_giveUp M a).2) : zz_T G md_Le_giveUp [.inr (.inr (5, 0, 0)), .inl a] M post := by
  refine en_Le_giveUp hG rfl (fun Z ok => ?_)
  refine zz_cS ok rfl trivial rfl lk_Le_42 ca_Le_isServer rfl rfl rfl (sp_Le_isServer hG ?_)
  try simp only [es]
  refine zz_b ok rfl trivial rfl (fun h4 => ?_) (fun h4 => ?_)
  · skip
    try simp only [es] at h4 ⊢
    have h4 := wi_of h4
    refine zz_i ok rfl trivial rfl rfl ?_
    exact zz_pq h (by simp [L_giveUp, nsv, h4]) (by simp [L_giveUp, nsv, h4])
  · skip
    try simp only [es] at h4 ⊢
    have h4 := wi_nof h4
    obtain ⟨s, hs, rfl⟩ := ni_w (N := 4) (by decide) h4.1 h4.2
    have es := ni_e5 hs
    refine zz_cV ok rfl trivial rfl lk_Le_93 ca_Wo_isHolder rfl rfl rfl rfl rfl (sp_Wo_isHolder hG rfl hs ?_)
    try simp only [es]
    refine zz_b ok rfl trivial rfl (fun h19 => ?_) (fun h19 => ?_)
    · skip
      try simp only [es] at h19 ⊢
      simp only [zz_bi0, Bool.not_eq_false] at h19
      refine zz_i ok rfl trivial rfl rfl ?_
      exact zz_pq h (by simp [L_giveUp, nsv, es, h4, h19]) (by simp [L_giveUp, nsv, es, h4, h19])
    · skip
      try simp only [es] at h19 ⊢
      simp only [zz_bi0, Bool.not_eq_false] at h19
      refine zz_cV ok rfl trivial rfl lk_Le_102 ca_Wo_abandon rfl rfl rfl rfl rfl (sp_Wo_abandon hG rfl hs ?_)
      try simp only [es]
      refine zz_i ok rfl trivial rfl rfl ?_
      exact zz_pq h (by simp [L_giveUp, nsv, es, h4, h19]) (by simp [L_giveUp, nsv, es, h4, h19])
theorem sp_Le_handOver {G : zG} {post : Option zV → zM → Prop} {M : zM} {a b d : Int32} (hw : wr M 0) (hG : zz_go G) (h : post (some (.inl (L_handOver M a b d).1)) (L_handOver M a b d).2) : zz_T G md_Le_handOver [.inr (.inr (5, 0, 0)), .inl a, .inl b, .inl d] M post := by
  refine en_Le_handOver hG rfl (fun Z ok => ?_)
  refine zz_cS ok rfl trivial rfl lk_Le_42 ca_Le_isServer rfl rfl rfl (sp_Le_isServer hG ?_)
  try simp only [es]
  refine zz_b ok rfl trivial rfl (fun h4 => ?_) (fun h4 => ?_)
  · skip
    try simp only [es] at h4 ⊢
    have h4 := wi_of h4
    refine zz_i ok rfl trivial rfl rfl ?_
    exact zz_pq h (by simp [L_handOver, nsv, h4]) (by simp [L_handOver, nsv, h4])
  · skip
    try simp only [es] at h4 ⊢
    have h4 := wi_nof h4
    obtain ⟨s, hs, rfl⟩ := ni_w (N := 4) (by decide) h4.1 h4.2
    have es := ni_e5 hs
    refine zz_cS ok rfl trivial rfl lk_Le_42 ca_Le_isServer rfl rfl rfl (sp_Le_isServer hG ?_)
    try simp only [es]
    refine zz_b ok rfl trivial rfl (fun h11 => ?_) (fun h11 => ?_)
    · skip
      try simp only [es] at h11 ⊢
      have h11 := wi_of h11
      refine zz_i ok rfl trivial rfl rfl ?_
      exact zz_pq h (by simp [L_handOver, nsv, es, h4, h11]) (by simp [L_handOver, nsv, es, h4, h11])
    · skip
      try simp only [es] at h11 ⊢
      have h11 := wi_nof h11
      obtain ⟨v, hv, rfl⟩ := ni_w (N := 4) (by decide) h11.1 h11.2
      have ev := ni_e5 hv
      refine zz_b ok rfl trivial rfl (fun h16 => ?_) (fun h16 => ?_)
      · skip
        try simp only [es] at h16 ⊢
        refine zz_i ok rfl trivial rfl rfl ?_
        exact zz_pq h (by simp [L_handOver, nsv, es, ev, h4, h11, h16]) (by simp [L_handOver, nsv, es, ev, h4, h11, h16])
      · skip
        try simp only [es] at h16 ⊢
        refine zz_cS ok rfl trivial rfl lk_Le_90 ca_Le_isDuration rfl rfl rfl (sp_Le_isDuration hG ?_)
        try simp only [es]
        refine zz_b ok rfl trivial rfl (fun h23 => ?_) (fun h23 => ?_)
        · skip
          try simp only [es] at h23 ⊢
          have h23 := wi_of h23
          refine zz_i ok rfl trivial rfl rfl ?_
          exact zz_pq h (by simp [L_handOver, nsv, es, ev, h4, h11, h16, h23]) (by simp [L_handOver, nsv, es, ev, h4, h11, h16, h23])
        · skip
          try simp only [es] at h23 ⊢
          have h23 := wi_nof h23
          refine zz_cV ok rfl trivial rfl lk_Le_93 ca_Wo_isHolder rfl rfl rfl rfl rfl (sp_Wo_isHolder hG rfl hs ?_)
          try simp only [es]
          refine zz_b ok rfl trivial rfl (fun h38 => ?_) (fun h38 => ?_)
          · skip
            try simp only [es] at h38 ⊢
            simp only [zz_bi0, Bool.not_eq_false] at h38
            refine zz_i ok rfl trivial rfl rfl ?_
            exact zz_pq h (by simp [L_handOver, nsv, es, ev, h4, h11, h16, h23, h38]) (by simp [L_handOver, nsv, es, ev, h4, h11, h16, h23, h38])
          · skip
            try simp only [es] at h38 ⊢
            simp only [zz_bi0, Bool.not_eq_false] at h38
            refine zz_cV ok rfl trivial rfl lk_Le_105 ca_Wo_accepts rfl rfl rfl rfl rfl (sp_Wo_accepts hG rfl hs rfl hv ?_)
            try simp only [es]
            refine zz_b ok rfl trivial rfl (fun h50 => ?_) (fun h50 => ?_)
            · skip
              try simp only [es] at h50 ⊢
              simp only [zz_bi0, Bool.not_eq_false] at h50
              refine zz_i ok rfl trivial rfl rfl ?_
              exact zz_pq h (by simp [L_handOver, nsv, es, ev, h4, h11, h16, h23, h38, h50]) (by simp [L_handOver, nsv, es, ev, h4, h11, h16, h23, h38, h50])
            · skip
              try simp only [es] at h50 ⊢
              simp only [zz_bi0, Bool.not_eq_false] at h50
              refine zz_cV ok rfl (by and_intros <;> first | trivial | exact ni_5 hs | exact ni_5 hv) rfl lk_Le_118 ca_Wo_shareLog rfl rfl rfl rfl rfl (sp_Wo_shareLog hG rfl hs rfl hv hw ?_)
              try simp only [es]
              refine zz_cV ok rfl trivial rfl lk_Le_102 ca_Wo_abandon rfl rfl rfl rfl rfl (sp_Wo_abandon hG rfl hs ?_)
              try simp only [es]
              refine zz_cV ok rfl trivial rfl lk_Le_96 ca_Wo_elect rfl rfl rfl rfl rfl (sp_Wo_elect hG rfl hv (c_ab_wr (c_sh_wr hs hv hw)) ?_)
              try simp only [es]
              refine zz_i ok rfl trivial rfl rfl ?_
              exact zz_pq h (by simp [L_handOver, nsv, es, ev, h4, h11, h16, h23, h38, h50]) (by simp [L_handOver, nsv, es, ev, h4, h11, h16, h23, h38, h50])
theorem sp_Le_reason {G : zG} {post : Option zV → zM → Prop} {M : zM} {a : Int32} (hG : zz_go G) (h : post (some (.inl (L_reason M a))) M) : zz_T G md_Le_reason [.inr (.inr (5, 0, 0)), .inl a] M post := by
  refine en_Le_reason hG rfl (fun Z ok => ?_)
  refine zz_cS ok rfl trivial rfl lk_Le_42 ca_Le_isServer rfl rfl rfl (sp_Le_isServer hG ?_)
  refine zz_b ok rfl trivial rfl (fun h4 => ?_) (fun h4 => ?_)
  · skip
    have h4 := wi_of h4
    refine zz_i ok rfl trivial rfl rfl ?_
    exact zz_pq h (by simp [L_reason, nsv, h4]) rfl
  · skip
    have h4 := wi_nof h4
    obtain ⟨s, hs, rfl⟩ := ni_w (N := 4) (by decide) h4.1 h4.2
    have es := ni_e5 hs
    refine zz_i ok rfl (by and_intros <;> first | trivial | exact ni_5 hs | exact ni_5 hv) rfl rfl ?_
    exact zz_pq h (by simp [L_reason, nsv, es, h4]) rfl
theorem sp_Le_holds {G : zG} {post : Option zV → zM → Prop} {M : zM} {a : Int32} (hG : zz_go G) (h : post (some (.inl (L_holds M a))) M) : zz_T G md_Le_holds [.inr (.inr (5, 0, 0)), .inl a] M post := by
  refine en_Le_holds hG rfl (fun Z ok => ?_)
  refine zz_cS ok rfl trivial rfl lk_Le_42 ca_Le_isServer rfl rfl rfl (sp_Le_isServer hG ?_)
  refine zz_b ok rfl trivial rfl (fun h4 => ?_) (fun h4 => ?_)
  · skip
    have h4 := wi_of h4
    refine zz_i ok rfl trivial rfl rfl ?_
    exact zz_pq h (by simp [L_holds, nsv, h4]) rfl
  · skip
    have h4 := wi_nof h4
    obtain ⟨s, hs, rfl⟩ := ni_w (N := 4) (by decide) h4.1 h4.2
    have es := ni_e5 hs
    refine zz_cV ok rfl trivial rfl lk_Le_93 ca_Wo_isHolder rfl rfl rfl rfl rfl (sp_Wo_isHolder hG rfl hs ?_)
    refine zz_b ok rfl trivial rfl (fun h19 => ?_) (fun h19 => ?_)
    · skip
      simp only [zz_bi0, Bool.not_eq_false] at h19
      refine zz_i ok rfl trivial rfl rfl ?_
      exact zz_pq h (by simp [L_holds, nsv, es, h4, h19]) rfl
    · skip
      simp only [zz_bi0, Bool.not_eq_false] at h19
      refine zz_i ok rfl trivial rfl rfl ?_
      exact zz_pq h (by simp [L_holds, nsv, es, h4, h19]) rfl
theorem sp_Le_known {G : zG} {post : Option zV → zM → Prop} {M : zM} {a w : Int32} (hG : zz_go G) (h : post (some (.inl (L_known M a w))) M) : zz_T G md_Le_known [.inr (.inr (5, 0, 0)), .inl a, .inl w] M post := by
  refine en_Le_known hG rfl (fun Z ok => ?_)
  refine zz_cS ok rfl trivial rfl lk_Le_42 ca_Le_isServer rfl rfl rfl (sp_Le_isServer hG ?_)
  refine zz_b ok rfl trivial rfl (fun h4 => ?_) (fun h4 => ?_)
  · skip
    have h4 := wi_of h4
    refine zz_i ok rfl trivial rfl rfl ?_
    exact zz_pq h (by simp [L_known, nsv, h4]) rfl
  · skip
    have h4 := wi_nof h4
    obtain ⟨s, hs, rfl⟩ := ni_w (N := 4) (by decide) h4.1 h4.2
    have es := ni_e5 hs
    refine zz_g ok rfl (by and_intros <;> first | trivial | exact ni_5 hs | exact ni_5 hv) ?_
    refine zz_tsw ok sw_Le_known_22 [(0, 56), (1, 61), (2, 66), (3, 71), (4, 76)] 81 (by decide +kernel) ?_
    refine ⟨fun h22_0 => ?_, fun h22_0 => ?_⟩
    · skip
      refine zz_i ok rfl trivial rfl rfl ?_
      exact zz_pq h (by simp [L_known, nsv, es, h4, h22_0]) rfl
    refine ⟨fun h22_1 => ?_, fun h22_1 => ?_⟩
    · skip
      refine zz_i ok rfl trivial rfl rfl ?_
      exact zz_pq h (by simp [L_known, nsv, es, h4, h22_0, h22_1]) rfl
    refine ⟨fun h22_2 => ?_, fun h22_2 => ?_⟩
    · skip
      refine zz_i ok rfl trivial rfl rfl ?_
      exact zz_pq h (by simp [L_known, nsv, es, h4, h22_0, h22_1, h22_2]) rfl
    refine ⟨fun h22_3 => ?_, fun h22_3 => ?_⟩
    · skip
      refine zz_i ok rfl trivial rfl rfl ?_
      exact zz_pq h (by simp [L_known, nsv, es, h4, h22_0, h22_1, h22_2, h22_3]) rfl
    refine ⟨fun h22_4 => ?_, fun h22_4 => ?_⟩
    · skip
      refine zz_i ok rfl trivial rfl rfl ?_
      exact zz_pq h (by simp [L_known, nsv, es, h4, h22_0, h22_1, h22_2, h22_3, h22_4]) rfl
    refine zz_i ok rfl trivial rfl rfl ?_
    exact zz_pq h (by simp [L_known, nsv, es, h4, h22_0, h22_1, h22_2, h22_3, h22_4]) rfl
theorem sp_Le_write {G : zG} {post : Option zV → zM → Prop} {M : zM} {a k v : Int32} (hw : wr M 0) (hG : zz_go G) (h : post (some (.inl (L_write M a k v).1)) (L_write M a k v).2) : zz_T G md_Le_write [.inr (.inr (5, 0, 0)), .inl a, .inl k, .inl v] M post := by
  refine en_Le_write hG rfl (fun Z ok => ?_)
  refine zz_cS ok rfl trivial rfl lk_Le_42 ca_Le_isServer rfl rfl rfl (sp_Le_isServer hG ?_)
  refine zz_b ok rfl trivial rfl (fun h4 => ?_) (fun h4 => ?_)
  · skip
    have h4 := wi_of h4
    refine zz_i ok rfl trivial rfl rfl ?_
    exact zz_pq h (by simp [L_write, nsv, h4]) (by simp [L_write, nsv, h4])
  · skip
    have h4 := wi_nof h4
    obtain ⟨s, hs, rfl⟩ := ni_w (N := 4) (by decide) h4.1 h4.2
    have es := ni_e5 hs
    refine zz_cS ok rfl trivial rfl lk_Le_140 ca_Le_isKey rfl rfl rfl (sp_Le_isKey hG ?_)
    refine zz_b ok rfl trivial rfl (fun h11 => ?_) (fun h11 => ?_)
    · skip
      have h11 := wi_of h11
      refine zz_i ok rfl trivial rfl rfl ?_
      exact zz_pq h (by simp [L_write, nsv, es, h4, h11]) (by simp [L_write, nsv, es, h4, h11])
    · skip
      have h11 := wi_nof h11
      refine zz_cS ok rfl trivial rfl lk_Le_143 ca_Le_isValue rfl rfl rfl (sp_Le_isValue hG ?_)
      refine zz_b ok rfl trivial rfl (fun h18 => ?_) (fun h18 => ?_)
      · skip
        have h18 := wi_of h18
        refine zz_i ok rfl trivial rfl rfl ?_
        exact zz_pq h (by simp [L_write, nsv, es, h4, h11, h18]) (by simp [L_write, nsv, es, h4, h11, h18])
      · skip
        have h18 := wi_nof h18
        refine zz_cV ok rfl trivial rfl lk_Le_146 ca_Wo_replicate rfl rfl rfl rfl rfl (sp_Wo_replicate hG rfl hs hw ?_)
        refine zz_i ok rfl trivial rfl rfl ?_
        exact zz_pq h (by simp [L_write, nsv, es, h4, h11, h18]) (by simp [L_write, nsv, es, h4, h11, h18])
theorem sp_Le_barrier {G : zG} {post : Option zV → zM → Prop} {M : zM} {a : Int32} (hw : wr M 0) (hG : zz_go G) (h : post (some (.inl (L_barrier M a).1)) (L_barrier M a).2) : zz_T G md_Le_barrier [.inr (.inr (5, 0, 0)), .inl a] M post := by
  refine en_Le_barrier hG rfl (fun Z ok => ?_)
  refine zz_cS ok rfl trivial rfl lk_Le_42 ca_Le_isServer rfl rfl rfl (sp_Le_isServer hG ?_)
  refine zz_b ok rfl trivial rfl (fun h4 => ?_) (fun h4 => ?_)
  · skip
    have h4 := wi_of h4
    refine zz_i ok rfl trivial rfl rfl ?_
    exact zz_pq h (by simp [L_barrier, nsv, h4]) (by simp [L_barrier, nsv, h4])
  · skip
    have h4 := wi_nof h4
    obtain ⟨s, hs, rfl⟩ := ni_w (N := 4) (by decide) h4.1 h4.2
    have es := ni_e5 hs
    refine zz_cV ok rfl trivial rfl lk_Le_146 ca_Wo_replicate rfl rfl rfl rfl rfl (sp_Wo_replicate hG rfl hs hw ?_)
    refine zz_i ok rfl trivial rfl rfl ?_
    exact zz_pq h (by simp [L_barrier, nsv, es, h4]) (by simp [L_barrier, nsv, es, h4])
theorem sp_Le_read {G : zG} {post : Option zV → zM → Prop} {M : zM} {a k : Int32} (hw : wr M 0) (hc : wc M 0) (hG : zz_go G) (h : post (some (.inl (L_read M a k))) M) : zz_T G md_Le_read [.inr (.inr (5, 0, 0)), .inl a, .inl k] M post := by
  refine en_Le_read hG rfl (fun Z ok => ?_)
  refine zz_cS ok rfl trivial rfl lk_Le_42 ca_Le_isServer rfl rfl rfl (sp_Le_isServer hG ?_)
  try simp only [es]
  refine zz_b ok rfl trivial rfl (fun h4 => ?_) (fun h4 => ?_)
  · skip
    try simp only [es] at h4 ⊢
    have h4 := wi_of h4
    refine zz_i ok rfl trivial rfl rfl ?_
    exact zz_pq h (by simp [L_read, nsv, h4]) rfl
  · skip
    try simp only [es] at h4 ⊢
    have h4 := wi_nof h4
    obtain ⟨s, hs, rfl⟩ := ni_w (N := 4) (by decide) h4.1 h4.2
    have es := ni_e5 hs
    refine zz_cS ok rfl trivial rfl lk_Le_140 ca_Le_isKey rfl rfl rfl (sp_Le_isKey hG ?_)
    try simp only [es]
    refine zz_b ok rfl trivial rfl (fun h11 => ?_) (fun h11 => ?_)
    · skip
      try simp only [es] at h11 ⊢
      have h11 := wi_of h11
      refine zz_i ok rfl trivial rfl rfl ?_
      exact zz_pq h (by simp [L_read, nsv, es, h4, h11]) rfl
    · skip
      try simp only [es] at h11 ⊢
      have h11 := wi_nof h11
      refine zz_cV ok rfl (by and_intros <;> first | trivial | exact ni_5 hs | exact ni_5 hv) rfl lk_Le_93 ca_Wo_isHolder rfl rfl rfl rfl rfl (sp_Wo_isHolder hG rfl hs ?_)
      try simp only [es]
      refine zz_b ok rfl trivial rfl (fun h36 => ?_) (fun h36 => ?_)
      · skip
        try simp only [es] at h36 ⊢
        simp only [zz_bi0, Bool.not_eq_false] at h36
        refine zz_i ok rfl trivial rfl rfl ?_
        exact zz_pq h (by simp [L_read, nsv, es, h4, h11, h36]) rfl
      · skip
        try simp only [es] at h36 ⊢
        simp only [zz_bi0, Bool.not_eq_false] at h36
        refine zz_b ok rfl trivial rfl (fun h46 => ?_) (fun h46 => ?_)
        · skip
          try simp only [es] at h46 ⊢
          refine zz_i ok rfl trivial rfl rfl ?_
          exact zz_pq h (by simp [L_read, nsv, es, h4, h11, h36, h46]) rfl
        · skip
          try simp only [es] at h46 ⊢
          refine zz_cV ok rfl trivial rfl lk_Le_150 ca_Lo_lastCommitted rfl rfl rfl rfl rfl (sp_Lo_lastCommitted hG (hw s (by omega)).1 (hw s (by omega)).2 (hc s (by omega)).1 (hc s (by omega)).2 (p := 0) rfl (by decide) ?_)
          try simp only [es]
          refine zz_b ok rfl trivial rfl (fun h61 => ?_) (fun h61 => ?_)
          · skip
            try simp only [es] at h61 ⊢
            refine zz_cV ok rfl trivial rfl lk_Le_154 ca_Lo_lastValue rfl rfl rfl rfl rfl (sp_Lo_lastValue hG (hw s (by omega)).1 (hw s (by omega)).2 (hc s (by omega)).1 (hc s (by omega)).2 ?_)
            try simp only [es]
            refine zz_i ok rfl trivial rfl rfl ?_
            exact zz_pq h (by simp [L_read, nsv, es, h4, h11, h36, h46, h61]) rfl
          · skip
            try simp only [es] at h61 ⊢
            refine zz_i ok rfl trivial rfl rfl ?_
            exact zz_pq h (by simp [L_read, nsv, es, h4, h11, h36, h46, h61]) rfl
theorem sp_Le_readAt {G : zG} {post : Option zV → zM → Prop} {M : zM} {a k t : Int32} (hw : wr M 0) (hc : wc M 0) (hG : zz_go G) (h : post (some (.inl (L_readAt M a k t))) M) : zz_T G md_Le_readAt [.inr (.inr (5, 0, 0)), .inl a, .inl k, .inl t] M post := by
  refine en_Le_readAt hG rfl (fun Z ok => ?_)
  refine zz_cS ok rfl trivial rfl lk_Le_42 ca_Le_isServer rfl rfl rfl (sp_Le_isServer hG ?_)
  try simp only [es]
  refine zz_b ok rfl trivial rfl (fun h4 => ?_) (fun h4 => ?_)
  · skip
    try simp only [es] at h4 ⊢
    have h4 := wi_of h4
    refine zz_i ok rfl trivial rfl rfl ?_
    exact zz_pq h (by simp [L_readAt, nsv, h4]) rfl
  · skip
    try simp only [es] at h4 ⊢
    have h4 := wi_nof h4
    obtain ⟨s, hs, rfl⟩ := ni_w (N := 4) (by decide) h4.1 h4.2
    have es := ni_e5 hs
    refine zz_cS ok rfl trivial rfl lk_Le_140 ca_Le_isKey rfl rfl rfl (sp_Le_isKey hG ?_)
    try simp only [es]
    refine zz_b ok rfl trivial rfl (fun h11 => ?_) (fun h11 => ?_)
    · skip
      try simp only [es] at h11 ⊢
      have h11 := wi_of h11
      refine zz_i ok rfl trivial rfl rfl ?_
      exact zz_pq h (by simp [L_readAt, nsv, es, h4, h11]) rfl
    · skip
      try simp only [es] at h11 ⊢
      have h11 := wi_nof h11
      refine zz_b ok rfl trivial rfl (fun h15 => ?_) (fun h15 => ?_)
      · skip
        try simp only [es] at h15 ⊢
        refine zz_i ok rfl trivial rfl rfl ?_
        exact zz_pq h (by simp [L_readAt, nsv, es, h4, h11, h15]) rfl
      · skip
        try simp only [es] at h15 ⊢
        refine zz_b ok rfl (by and_intros <;> first | trivial | exact ni_5 hs | exact ni_5 hv) rfl (fun h38 => ?_) (fun h38 => ?_)
        · skip
          try simp only [es] at h38 ⊢
          refine zz_b ok rfl trivial rfl (fun h49 => ?_) (fun h49 => ?_)
          · skip
            try simp only [es] at h49 ⊢
            refine zz_i ok rfl trivial rfl rfl ?_
            exact zz_pq h (by simp [L_readAt, nsv, es, h4, h11, h15, h38, h49]) rfl
          · skip
            try simp only [es] at h49 ⊢
            refine zz_cV ok rfl trivial rfl lk_Le_150 ca_Lo_lastCommitted rfl rfl rfl rfl rfl (sp_Lo_lastCommitted hG (hw s (by omega)).1 (hw s (by omega)).2 (hc s (by omega)).1 (hc s (by omega)).2 (p := 3) rfl (by decide) ?_)
            try simp only [es]
            refine zz_b ok rfl trivial rfl (fun h62 => ?_) (fun h62 => ?_)
            · skip
              try simp only [es] at h62 ⊢
              refine zz_i ok rfl trivial rfl rfl ?_
              exact zz_pq h (by simp [L_readAt, nsv, es, h4, h11, h15, h38, h49, h62]) rfl
            · skip
              try simp only [es] at h62 ⊢
              refine zz_cV ok rfl trivial rfl lk_Le_154 ca_Lo_lastValue rfl rfl rfl rfl rfl (sp_Lo_lastValue hG (hw s (by omega)).1 (hw s (by omega)).2 (hc s (by omega)).1 (hc s (by omega)).2 ?_)
              try simp only [es]
              refine zz_i ok rfl trivial rfl rfl ?_
              exact zz_pq h (by simp [L_readAt, nsv, es, h4, h11, h15, h38, h49, h62]) rfl
        · skip
          try simp only [es] at h38 ⊢
          refine zz_i ok rfl trivial rfl rfl ?_
          exact zz_pq h (by simp [L_readAt, nsv, es, h4, h11, h15, h38]) rfl
theorem sp_Le_log {G : zG} {post : Option zV → zM → Prop} {M : zM} {a w : Int32} (hw : wr M 0) (hc : wc M 0) (hG : zz_go G) (h : post (some (.inl (L_log M a w))) M) : zz_T G md_Le_log [.inr (.inr (5, 0, 0)), .inl a, .inl w] M post := by
  refine en_Le_log hG rfl (fun Z ok => ?_)
  refine zz_cS ok rfl trivial rfl lk_Le_42 ca_Le_isServer rfl rfl rfl (sp_Le_isServer hG ?_)
  try simp only [es]
  refine zz_b ok rfl trivial rfl (fun h4 => ?_) (fun h4 => ?_)
  · skip
    try simp only [es] at h4 ⊢
    have h4 := wi_of h4
    refine zz_i ok rfl trivial rfl rfl ?_
    exact zz_pq h (by simp [L_log, nsv, h4]) rfl
  · skip
    try simp only [es] at h4 ⊢
    have h4 := wi_nof h4
    obtain ⟨s, hs, rfl⟩ := ni_w (N := 4) (by decide) h4.1 h4.2
    have es := ni_e5 hs
    refine zz_g ok rfl (by and_intros <;> first | trivial | exact ni_5 hs | exact ni_5 hv) ?_
    refine zz_tsw ok sw_Le_log_22 [(0, 56), (1, 67), (2, 75), (3, 88), (4, 97)] 105 (by decide +kernel) ?_
    refine ⟨fun h22_0 => ?_, fun h22_0 => ?_⟩
    · skip
      refine zz_i ok rfl trivial rfl rfl ?_
      exact zz_pq h (by simp [L_log, nsv, es, h4, h22_0]) rfl
    refine ⟨fun h22_1 => ?_, fun h22_1 => ?_⟩
    · skip
      refine zz_i ok rfl trivial rfl rfl ?_
      exact zz_pq h (by simp [L_log, nsv, es, h4, h22_0, h22_1]) rfl
    refine ⟨fun h22_2 => ?_, fun h22_2 => ?_⟩
    · skip
      refine zz_cV ok rfl trivial rfl lk_Le_166 ca_Ro_lastOr rfl rfl rfl rfl rfl (sp_Ro_lastOr (n := rn M 0 s) hG (by rw [es]; exact (hw s (by omega)).1) (by rw [es]; exact (hw s (by omega)).2) (c := 0) rfl (by decide) ?_)
      try simp only [es]
      refine zz_i ok rfl trivial rfl rfl ?_
      exact zz_pq h (by simp [L_log, nsv, es, h4, h22_0, h22_1, h22_2]) rfl
    refine ⟨fun h22_3 => ?_, fun h22_3 => ?_⟩
    · skip
      refine zz_cV ok rfl trivial rfl lk_Le_150 ca_Lo_lastCommitted rfl rfl rfl rfl rfl (sp_Lo_lastCommitted (n := rn M 0 s) (c := cmn M 0 s) hG (by rw [es]; exact (hw s (by omega)).1) (by rw [es]; exact (hw s (by omega)).2) (by rw [es]; exact (hc s (by omega)).1) (hc s (by omega)).2 (p := 3) rfl (by decide) ?_)
      try simp only [es]
      refine zz_i ok rfl trivial rfl rfl ?_
      exact zz_pq h (by simp [L_log, nsv, es, h4, h22_0, h22_1, h22_2, h22_3]) rfl
    refine ⟨fun h22_4 => ?_, fun h22_4 => ?_⟩
    · skip
      refine zz_i ok rfl trivial rfl rfl ?_
      exact zz_pq h (by simp [L_log, nsv, es, h4, h22_0, h22_1, h22_2, h22_3, h22_4]) rfl
    refine zz_i ok rfl trivial rfl rfl ?_
    exact zz_pq h (by simp [L_log, nsv, es, h4, h22_0, h22_1, h22_2, h22_3, h22_4]) rfl
theorem sp_Le_entry {G : zG} {post : Option zV → zM → Prop} {M : zM} {a i w : Int32} (hw : wr M 0) (hG : zz_go G) (h : post (some (.inl (L_entry M a i w))) M) : zz_T G md_Le_entry [.inr (.inr (5, 0, 0)), .inl a, .inl i, .inl w] M post := by
  refine en_Le_entry hG rfl (fun Z ok => ?_)
  refine zz_cS ok rfl trivial rfl lk_Le_42 ca_Le_isServer rfl rfl rfl (sp_Le_isServer hG ?_)
  try simp only [es]
  refine zz_b ok rfl trivial rfl (fun h4 => ?_) (fun h4 => ?_)
  · skip
    try simp only [es] at h4 ⊢
    have h4 := wi_of h4
    refine zz_i ok rfl trivial rfl rfl ?_
    exact zz_pq h (by simp [L_entry, nsv, h4]) rfl
  · skip
    try simp only [es] at h4 ⊢
    have h4 := wi_nof h4
    obtain ⟨s, hs, rfl⟩ := ni_w (N := 4) (by decide) h4.1 h4.2
    have es := ni_e5 hs
    refine zz_cS ok rfl (by and_intros <;> first | trivial | exact ni_5 hs | exact ni_5 hv) rfl lk_Le_50 ca_Le_isWithin rfl rfl rfl (sp_Le_isWithin hG ?_)
    try simp only [es]
    refine zz_b ok rfl trivial rfl (fun h32 => ?_) (fun h32 => ?_)
    · skip
      try simp only [es] at h32 ⊢
      have h32 := wi_of h32
      refine zz_i ok rfl trivial rfl rfl ?_
      exact zz_pq h (by simp [L_entry, nsv, es, h4, h32]) rfl
    · skip
      try simp only [es] at h32 ⊢
      have h32 := wi_nof h32
      refine zz_cS ok rfl trivial rfl lk_Le_50 ca_Le_isWithin rfl rfl rfl (sp_Le_isWithin hG ?_)
      try simp only [es]
      refine zz_b ok rfl trivial rfl (fun h41 => ?_) (fun h41 => ?_)
      · skip
        try simp only [es] at h41 ⊢
        have h41 := wi_of h41
        refine zz_i ok rfl trivial rfl rfl ?_
        exact zz_pq h (by simp [L_entry, nsv, es, h4, h32, h41]) rfl
      · skip
        try simp only [es] at h41 ⊢
        have h41 := wi_nof h41
        obtain ⟨c, hc3, rfl⟩ := ni_w (N := 3) (by decide) h41.1 h41.2
        have ec : zz_ix (nI c) = c := zz_ixn (by omega)
        refine zz_cV ok rfl (by and_intros <;> first | trivial | exact ni_5 hs | exact ni_5 hv) rfl lk_Le_172 ca_Ro_get rfl rfl rfl rfl rfl (sp_Ro_get (n := rn M 0 s) (c := c) hG (by rw [es]; exact (hw s (by omega)).1) (by rw [es]; exact (hw s (by omega)).2) rfl hc3 ?_)
        try simp only [es]
        refine zz_i ok rfl trivial rfl rfl ?_
        exact zz_pq h (by simp [L_entry, nsv, es, ec, h4, h32, h41]) rfl
theorem sp_Le_agreement {G : zG} {post : Option zV → zM → Prop} {M : zM} {a b : Int32} (hw : wr M 0) (hG : zz_go G) (h : post (some (.inl (L_agreement M a b))) M) : zz_T G md_Le_agreement [.inr (.inr (5, 0, 0)), .inl a, .inl b] M post := by
  refine en_Le_agreement hG rfl (fun Z ok => ?_)
  refine zz_cS ok rfl trivial rfl lk_Le_42 ca_Le_isServer rfl rfl rfl (sp_Le_isServer hG ?_)
  refine zz_b ok rfl trivial rfl (fun h4 => ?_) (fun h4 => ?_)
  · skip
    have h4 := wi_of h4
    refine zz_i ok rfl trivial rfl rfl ?_
    exact zz_pq h (by simp [L_agreement, nsv, h4]) rfl
  · skip
    have h4 := wi_nof h4
    obtain ⟨s, hs, rfl⟩ := ni_w (N := 4) (by decide) h4.1 h4.2
    have es := ni_e5 hs
    refine zz_cS ok rfl trivial rfl lk_Le_42 ca_Le_isServer rfl rfl rfl (sp_Le_isServer hG ?_)
    refine zz_b ok rfl trivial rfl (fun h11 => ?_) (fun h11 => ?_)
    · skip
      have h11 := wi_of h11
      refine zz_i ok rfl trivial rfl rfl ?_
      exact zz_pq h (by simp [L_agreement, nsv, es, h4, h11]) rfl
    · skip
      have h11 := wi_nof h11
      obtain ⟨v, hv, rfl⟩ := ni_w (N := 4) (by decide) h11.1 h11.2
      have ev := ni_e5 hv
      refine zz_cV ok rfl (by and_intros <;> first | trivial | exact ni_5 hs | exact ni_5 hv) rfl lk_Le_175 ca_Ro_sharedStart rfl rfl rfl rfl rfl (sp_Ro_sharedStart (n := rn M 0 s) (n2 := rn M 0 v) hG (by rw [es]; exact (hw s (by omega)).1) (by rw [es]; exact (hw s (by omega)).2) (by rw [ev]; exact (hw v (by omega)).1) (by rw [ev]; exact (hw v (by omega)).2) rfl ?_)
      refine zz_i ok rfl trivial rfl rfl ?_
      exact zz_pq h (by simp [L_agreement, nsv, es, ev, h4, h11]) rfl
theorem sp_Le_history {G : zG} {post : Option zV → zM → Prop} {M : zM} {k i : Int32} (hw : wr M 0) (hc : wc M 0) (hG : zz_go G) (h : post (some (.inl (L_history M k i))) M) : zz_T G md_Le_history [.inr (.inr (5, 0, 0)), .inl k, .inl i] M post := by
  refine en_Le_history hG rfl (fun Z ok => ?_)
  refine zz_cS ok rfl trivial rfl lk_Le_140 ca_Le_isKey rfl rfl rfl (sp_Le_isKey hG ?_)
  refine zz_b ok rfl trivial rfl (fun h4 => ?_) (fun h4 => ?_)
  · skip
    have h4 := wi_of h4
    refine zz_i ok rfl trivial rfl rfl ?_
    exact zz_pq h (by simp [L_history, nsv, h4]) rfl
  · skip
    have h4 := wi_nof h4
    refine zz_b ok rfl trivial rfl (fun h8 => ?_) (fun h8 => ?_)
    · skip
      refine zz_i ok rfl trivial rfl rfl ?_
      exact zz_pq h (by simp [L_history, nsv, h4, h8]) rfl
    · skip
      refine zz_cV ok rfl trivial rfl lk_Le_182 ca_Lo_valueOf rfl rfl rfl rfl rfl (sp_Lo_valueOf hG (hw 5 (by decide)).1 (hw 5 (by decide)).2 (hc 5 (by decide)).1 (hc 5 (by decide)).2 ?_)
      refine zz_i ok rfl trivial rfl rfl ?_
      exact zz_pq h (by simp [L_history, nsv, h4, h8]) rfl
theorem sp_Le_acknowledgement {G : zG} {post : Option zV → zM → Prop} {M : zM} {i w : Int32} (hw : wr M 0) (hG : zz_go G) (h : post (some (.inl (L_ack M i w))) M) : zz_T G md_Le_acknowledgement [.inr (.inr (5, 0, 0)), .inl i, .inl w] M post := by
  refine en_Le_acknowledgement hG rfl (fun Z ok => ?_)
  refine zz_b ok rfl trivial rfl (fun h1 => ?_) (fun h1 => ?_)
  · skip
    refine zz_i ok rfl trivial rfl rfl ?_
    exact zz_pq h (by simp [L_ack, h1]) rfl
  · skip
    refine zz_cS ok rfl trivial rfl lk_Le_50 ca_Le_isWithin rfl rfl rfl (sp_Le_isWithin hG ?_)
    refine zz_b ok rfl trivial rfl (fun h10 => ?_) (fun h10 => ?_)
    · skip
      have h10 := wi_of h10
      refine zz_i ok rfl trivial rfl rfl ?_
      exact zz_pq h (by simp [L_ack, h1, h10]) rfl
    · skip
      have h10 := wi_nof h10
      obtain ⟨c, hc3, rfl⟩ := ni_w (N := 3) (by decide) h10.1 h10.2
      have ec : zz_ix (nI c) = c := zz_ixn (by omega)
      refine zz_cV ok rfl trivial rfl lk_Le_172 ca_Ro_get rfl rfl rfl rfl rfl (sp_Ro_get (c := c) hG (hw 11 (by decide)).1 (hw 11 (by decide)).2 rfl hc3 ?_)
      refine zz_i ok rfl trivial rfl rfl ?_
      exact zz_pq h (by simp [L_ack, ec, h1, h10]) rfl
theorem sp_Le_send {G : zG} {post : Option zV → zM → Prop} {M : zM} {a c v : Int32} (hw : wr M 0) (hG : zz_go G) (h : post (some (.inl (L_send M a c v).1)) (L_send M a c v).2) : zz_T G md_Le_send [.inr (.inr (5, 0, 0)), .inl a, .inl c, .inl v] M post := by
  refine en_Le_send hG rfl (fun Z ok => ?_)
  refine zz_cS ok rfl trivial rfl lk_Le_42 ca_Le_isServer rfl rfl rfl (sp_Le_isServer hG ?_)
  try simp only [es]
  refine zz_b ok rfl trivial rfl (fun h4 => ?_) (fun h4 => ?_)
  · skip
    try simp only [es] at h4 ⊢
    have h4 := wi_of h4
    refine zz_i ok rfl trivial rfl rfl ?_
    exact zz_pq h (by simp [L_send, nsv, h4]) (by simp [L_send, nsv, h4])
  · skip
    try simp only [es] at h4 ⊢
    have h4 := wi_nof h4
    obtain ⟨s, hs, rfl⟩ := ni_w (N := 4) (by decide) h4.1 h4.2
    have es := ni_e5 hs
    refine zz_cS ok rfl trivial rfl lk_Le_50 ca_Le_isWithin rfl rfl rfl (sp_Le_isWithin hG ?_)
    try simp only [es]
    refine zz_b ok rfl trivial rfl (fun h13 => ?_) (fun h13 => ?_)
    · skip
      try simp only [es] at h13 ⊢
      have h13 := wi_of h13
      refine zz_i ok rfl trivial rfl rfl ?_
      exact zz_pq h (by simp [L_send, nsv, es, h4, h13]) (by simp [L_send, nsv, es, h4, h13])
    · skip
      try simp only [es] at h13 ⊢
      have h13 := wi_nof h13
      refine zz_cS ok rfl trivial rfl lk_Le_143 ca_Le_isValue rfl rfl rfl (sp_Le_isValue hG ?_)
      try simp only [es]
      refine zz_b ok rfl trivial rfl (fun h20 => ?_) (fun h20 => ?_)
      · skip
        try simp only [es] at h20 ⊢
        have h20 := wi_of h20
        refine zz_i ok rfl trivial rfl rfl ?_
        exact zz_pq h (by simp [L_send, nsv, es, h4, h13, h20]) (by simp [L_send, nsv, es, h4, h13, h20])
      · skip
        try simp only [es] at h20 ⊢
        have h20 := wi_nof h20
        refine zz_cV ok rfl trivial rfl lk_Le_93 ca_Wo_isHolder rfl rfl rfl rfl rfl (sp_Wo_isHolder hG rfl hs ?_)
        try simp only [es]
        refine zz_b ok rfl trivial rfl (fun h35 => ?_) (fun h35 => ?_)
        · skip
          try simp only [es] at h35 ⊢
          simp only [zz_bi0, Bool.not_eq_false] at h35
          refine zz_i ok rfl trivial rfl rfl ?_
          exact zz_pq h (by simp [L_send, nsv, es, h4, h13, h20, h35]) (by simp [L_send, nsv, es, h4, h13, h20, h35])
        · skip
          try simp only [es] at h35 ⊢
          simp only [zz_bi0, Bool.not_eq_false] at h35
          refine zz_cV ok rfl trivial rfl lk_Le_191 ca_Ro_isFull rfl rfl rfl rfl rfl (sp_Ro_isFull hG (hw 12 (by decide)).1 (hw 12 (by decide)).2 ?_)
          try simp only [es]
          refine zz_b ok rfl trivial rfl (fun h52 => ?_) (fun h52 => ?_)
          · skip
            try simp only [es] at h52 ⊢
            simp only [zz_bi0, decide_eq_true_eq, decide_eq_false_iff_not, Bool.not_eq_false, Decidable.not_not] at h52
            refine zz_cV ok rfl (by and_intros <;> first | trivial | exact ni_5 hs | exact ni_5 hv) rfl lk_Le_195 ca_Ro_add rfl rfl rfl rfl rfl (sp_Ro_add hG (hw 12 (by decide)).1 (hw 12 (by decide)).2 ?_)
            try simp only [es]
            refine zz_i ok rfl trivial rfl rfl ?_
            exact zz_pq h (by simp [L_send, nsv, es, h4, h13, h20, h35, h52]) (by simp [L_send, nsv, es, h4, h13, h20, h35, h52])
          · skip
            try simp only [es] at h52 ⊢
            simp only [zz_bi0, decide_eq_true_eq, decide_eq_false_iff_not, Bool.not_eq_false, Decidable.not_not] at h52
            refine zz_i ok rfl trivial rfl rfl ?_
            exact zz_pq h (by simp [L_send, nsv, es, h4, h13, h20, h35, h52]) (by simp [L_send, nsv, es, h4, h13, h20, h35, h52])
theorem sp_Le_deliver {G : zG} {post : Option zV → zM → Prop} {M : zM} {k : Int32} (hw : wr M 0) (hG : zz_go G) (h : post (some (.inl (L_deliver M k).1)) (L_deliver M k).2) : zz_T G md_Le_deliver [.inr (.inr (5, 0, 0)), .inl k] M post := by
  refine en_Le_deliver hG rfl (fun Z ok => ?_)
  have hn := hw 12 (by decide)
  have hr : zz_rl 12 = 80 := rfl
  refine zz_cS ok rfl trivial rfl lk_Le_50 ca_Le_isWithin rfl rfl rfl (sp_Le_isWithin hG ?_)
  refine zz_b ok rfl trivial rfl (fun h17 => ?_) (fun h17 => ?_)
  · skip
    have h17 := wi_of h17
    refine zz_i ok rfl trivial rfl rfl ?_
    exact zz_pq h (by simp [L_deliver, h17]) (by simp [L_deliver, h17])
  · skip
    have h17 := wi_nof h17
    obtain ⟨i, hi, rfl⟩ := ni_wm hn.1 (by omega) h17.1 h17.2
    have ei : zz_ix (nI i) = i := zz_ixn (by omega)
    refine zz_cV ok rfl trivial rfl lk_Le_172 ca_Ro_get rfl rfl rfl rfl rfl (sp_Ro_get hG hn.1 hn.2 (c := 3) rfl (by decide) ?_)
    rw [ro_get_in hn.1 hn.2 rfl hi]
    refine zz_b ok rfl trivial rfl (fun h36 => ?_) (fun h36 => ?_)
    · skip
      refine zz_cV ok rfl trivial rfl lk_Le_199 ca_Wo_bring rfl rfl rfl rfl rfl (sp_Wo_bring hG rfl hw hi ?_)
      refine zz_b ok rfl trivial rfl (fun h51 => ?_) (fun h51 => ?_)
      · skip
        refine zz_i ok rfl trivial rfl rfl ?_
        have hb : (c_br M i).1 = 0 := by
          rcases c_br01 M i with q | q
          · exact q
          · exact absurd h51 (by rw [q]; decide)
        exact zz_pq h (by simp [L_deliver, ei, h17, h36, hb]) (by simp [L_deliver, ei, h17, h36])
      · skip
        refine zz_i ok rfl trivial rfl rfl ?_
        have hb : (c_br M i).1 = 1 := by
          rcases c_br01 M i with q | q
          · exact absurd q h51
          · exact q
        exact zz_pq h (by simp [L_deliver, ei, h17, h36, hb]) (by simp [L_deliver, ei, h17, h36])
    · skip
      refine zz_i ok rfl trivial rfl rfl ?_
      exact zz_pq h (by simp [L_deliver, ei, h17, h36]) (by simp [L_deliver, ei, h17, h36])
theorem sp_Le_cell {G : zG} {post : Option zV → zM → Prop} {M : zM} {c w : Int32} (hG : zz_go G) (h : post (some (.inl (L_cell M c w))) M) : zz_T G md_Le_cell [.inr (.inr (5, 0, 0)), .inl c, .inl w] M post := by
  refine en_Le_cell hG rfl (fun Z ok => ?_)
  refine zz_cS ok rfl trivial rfl lk_Le_50 ca_Le_isWithin rfl rfl rfl (sp_Le_isWithin hG ?_)
  refine zz_b ok rfl trivial rfl (fun h6 => ?_) (fun h6 => ?_)
  · skip
    have h6 := wi_of h6
    refine zz_i ok rfl trivial rfl rfl ?_
    exact zz_pq h (by simp [L_cell, nsv, h6]) rfl
  · skip
    have h6 := wi_nof h6
    obtain ⟨i, hi, rfl⟩ := ni_w (N := 3) (by decide) h6.1 h6.2
    refine zz_g ok rfl trivial ?_
    refine zz_lsw ok sw_Le_cell_14 [(0, 40), (1, 50)] 60 (by decide +kernel) ?_
    refine ⟨fun h14_0 => ?_, fun h14_0 => ?_⟩
    · skip
      refine zz_i ok rfl ⟨ni_in hi (by decide), trivial⟩ rfl rfl ?_
      exact zz_pq h (by simp [L_cell, nsv, h6, h14_0]) rfl
    refine ⟨fun h14_1 => ?_, fun h14_1 => ?_⟩
    · skip
      refine zz_i ok rfl ⟨ni_in hi (by decide), trivial⟩ rfl rfl ?_
      exact zz_pq h (by simp [L_cell, nsv, h6, h14_0, h14_1]) rfl
    refine zz_i ok rfl trivial rfl rfl ?_
    exact zz_pq h (by simp [L_cell, nsv, h6, h14_0, h14_1]) rfl
theorem sp_Le_safeFor {G : zG} {post : Option zV → zM → Prop} {M : zM} {a : Int32} (hG : zz_go G) (h : post (some (.inl (L_safeFor M a))) M) : zz_T G md_Le_safeFor [.inr (.inr (5, 0, 0)), .inl a] M post := by
  refine en_Le_safeFor hG rfl (fun Z ok => ?_)
  refine zz_cS ok rfl trivial rfl lk_Le_42 ca_Le_isServer rfl rfl rfl (sp_Le_isServer hG ?_)
  try simp only [es]
  refine zz_b ok rfl trivial rfl (fun h4 => ?_) (fun h4 => ?_)
  · skip
    try simp only [es] at h4 ⊢
    have h4 := wi_of h4
    refine zz_i ok rfl trivial rfl rfl ?_
    exact zz_pq h (by simp [L_safeFor, nsv, h4]) rfl
  · skip
    try simp only [es] at h4 ⊢
    have h4 := wi_nof h4
    obtain ⟨s, hs, rfl⟩ := ni_w (N := 4) (by decide) h4.1 h4.2
    have es := ni_e5 hs
    refine zz_cV ok rfl trivial rfl lk_Le_93 ca_Wo_isHolder rfl rfl rfl rfl rfl (sp_Wo_isHolder hG rfl hs ?_)
    try simp only [es]
    refine zz_b ok rfl trivial rfl (fun h19 => ?_) (fun h19 => ?_)
    · skip
      try simp only [es] at h19 ⊢
      simp only [zz_bi0, Bool.not_eq_false] at h19
      refine zz_i ok rfl trivial rfl rfl ?_
      exact zz_pq h (by simp [L_safeFor, nsv, es, h4, h19]) rfl
    · skip
      try simp only [es] at h19 ⊢
      simp only [zz_bi0, Bool.not_eq_false] at h19
      refine zz_cV ok rfl (by and_intros <;> first | trivial | exact ni_5 hs | exact ni_5 hv) rfl lk_Le_70 ca_Wo_latest rfl rfl rfl rfl rfl (sp_Wo_latest hG rfl hs ?_)
      try simp only [es]
      refine zz_i ok rfl trivial rfl rfl ?_
      exact zz_pq h (by simp [L_safeFor, nsv, es, h4, h19]) rfl
theorem sp_Le_waitFor {G : zG} {post : Option zV → zM → Prop} {M : zM} {a : Int32} (hw : wr M 0) (hG : zz_go G) (h : post (some (.inl (L_waitFor M a))) M) : zz_T G md_Le_waitFor [.inr (.inr (5, 0, 0)), .inl a] M post := by
  refine en_Le_waitFor hG rfl (fun Z ok => ?_)
  refine zz_cS ok rfl trivial rfl lk_Le_42 ca_Le_isServer rfl rfl rfl (sp_Le_isServer hG ?_)
  refine zz_b ok rfl trivial rfl (fun h4 => ?_) (fun h4 => ?_)
  · skip
    have h4 := wi_of h4
    refine zz_i ok rfl trivial rfl rfl ?_
    exact zz_pq h (by simp [L_waitFor, nsv, h4]) rfl
  · skip
    have h4 := wi_nof h4
    obtain ⟨s, hs, rfl⟩ := ni_w (N := 4) (by decide) h4.1 h4.2
    have es := ni_e5 hs
    refine zz_cV ok rfl trivial rfl lk_Le_208 ca_Wo_ticksUntilLease rfl rfl rfl rfl rfl (sp_Wo_ticksUntilLease hG rfl hs hw ?_)
    refine zz_i ok rfl trivial rfl rfl ?_
    exact zz_pq h (by simp [L_waitFor, nsv, es, h4]) rfl
theorem sp_Le_type {G : zG} {post : Option zV → zM → Prop} {M : zM} {l : Int32} {n : Nat} (hl : M.1 (2, 0, 0) 4 = nI n) (hn : n ≤ 100) (hG : zz_go G) (h : post (some (.inl (L_type M n l).1)) (L_type M n l).2) : zz_T G md_Le_type [.inr (.inr (5, 0, 0)), .inl l] M post := by
  refine en_Le_type hG rfl (fun Z ok => ?_)
  refine zz_cS ok rfl trivial rfl lk_Le_50 ca_Le_isWithin rfl rfl rfl (sp_Le_isWithin hG ?_)
  refine zz_b ok rfl trivial rfl (fun h7 => ?_) (fun h7 => ?_)
  · skip
    have h7 := wi_of h7
    refine zz_i ok rfl trivial rfl rfl ?_
    exact zz_pq h (by simp [L_type, h7]) (by simp [L_type, h7])
  · skip
    have h7 := wi_nof h7
    refine zz_cV ok rfl trivial rfl lk_Le_229 ca_Sc_append rfl rfl rfl rfl rfl (sp_Sc_append hG hl hn ?_)
    refine zz_b ok rfl trivial rfl (fun h22 => ?_) (fun h22 => ?_)
    · skip
      have h22 : ¬ n < 100 := by
        intro q; rw [if_pos q] at h22; exact absurd h22 (by decide)
      rw [if_neg h22]
      refine zz_i ok rfl trivial rfl rfl ?_
      exact zz_pq h (by simp [L_type, h7, h22]) (by simp [L_type, h7, h22])
    · skip
      have h22 : n < 100 := by
        rcases Nat.lt_or_ge n 100 with q | q
        · exact q
        · exact absurd (if_neg (by omega)) h22
      rw [if_pos h22]
      refine zz_i ok rfl trivial rfl rfl ?_
      exact zz_pq h (by simp [L_type, sc_ap, zz_gs, h7, h22]) (by simp [L_type, h7, h22])
theorem sp_Le_clear {G : zG} {post : Option zV → zM → Prop} {M : zM} (hG : zz_go G) (h : post (some (.inl (M.1 (2, 0, 0) 4))) (zz_set M (2, 0, 0) 4 0)) : zz_T G md_Le_clear [.inr (.inr (5, 0, 0))] M post := by
  refine en_Le_clear hG rfl (fun Z ok => ?_)
  refine zz_i ok rfl trivial rfl rfl ?_
  exact h
theorem sp_Le_result {G : zG} {post : Option zV → zM → Prop} {M : zM} {i : Int32} (hG : zz_go G) (h : post (some (.inl (L_result M i))) M) : zz_T G md_Le_result [.inr (.inr (5, 0, 0)), .inl i] M post := by
  refine en_Le_result hG rfl (fun Z ok => ?_)
  refine zz_b ok rfl trivial rfl (fun h1 => ?_) (fun h1 => ?_)
  · skip
    refine zz_i ok rfl trivial rfl rfl ?_
    exact zz_pq h (by simp [L_result, nsv, h1]) rfl
  · skip
    refine zz_b ok rfl trivial rfl (fun h16 => ?_) (fun h16 => ?_)
    · skip
      refine zz_b ok rfl trivial rfl (fun h22 => ?_) (fun h22 => ?_)
      · skip
        refine zz_i ok rfl (by obtain ⟨c, hc, e⟩ := ni_ofr (n := 34) rfl (by decide) h1 h22; exact ⟨ni_inx e hc (by decide), trivial⟩) rfl rfl ?_
        exact zz_pq h (by simp [L_result, nsv, h1, h16, h22]) rfl
      · skip
        refine zz_i ok rfl trivial rfl rfl ?_
        exact zz_pq h (by simp [L_result, nsv, h1, h16, h22]) rfl
    · skip
      refine zz_i ok rfl trivial rfl rfl ?_
      exact zz_pq h (by simp [L_result, nsv, h1, h16]) rfl
theorem sp_Le_count {G : zG} {post : Option zV → zM → Prop} {M : zM} {w : Int32} (hG : zz_go G) (h : post (some (.inl (L_count M w))) M) : zz_T G md_Le_count [.inr (.inr (5, 0, 0)), .inl w] M post := by
  refine en_Le_count hG rfl (fun Z ok => ?_)
  refine zz_g ok rfl trivial ?_
  refine zz_tsw ok sw_Le_count_1 [(0, 60), (1, 68), (2, 76), (3, 87), (4, 98), (5, 106), (6, 117), (7, 125), (8, 133), (9, 141), (10, 149)] 157 (by decide +kernel) ?_
  refine ⟨fun h1_0 => ?_, fun h1_0 => ?_⟩
  · skip
    refine zz_i ok rfl trivial rfl rfl ?_
    exact zz_pq h (by simp [L_count, nsv, h1_0]) rfl
  refine ⟨fun h1_1 => ?_, fun h1_1 => ?_⟩
  · skip
    refine zz_i ok rfl trivial rfl rfl ?_
    exact zz_pq h (by simp [L_count, nsv, h1_0, h1_1]) rfl
  refine ⟨fun h1_2 => ?_, fun h1_2 => ?_⟩
  · skip
    refine zz_i ok rfl trivial rfl rfl ?_
    exact zz_pq h (by simp [L_count, nsv, h1_0, h1_1, h1_2]) rfl
  refine ⟨fun h1_3 => ?_, fun h1_3 => ?_⟩
  · skip
    refine zz_i ok rfl trivial rfl rfl ?_
    exact zz_pq h (by simp [L_count, nsv, h1_0, h1_1, h1_2, h1_3]) rfl
  refine ⟨fun h1_4 => ?_, fun h1_4 => ?_⟩
  · skip
    refine zz_i ok rfl trivial rfl rfl ?_
    exact zz_pq h (by simp [L_count, nsv, h1_0, h1_1, h1_2, h1_3, h1_4]) rfl
  refine ⟨fun h1_5 => ?_, fun h1_5 => ?_⟩
  · skip
    refine zz_i ok rfl trivial rfl rfl ?_
    exact zz_pq h (by simp [L_count, nsv, h1_0, h1_1, h1_2, h1_3, h1_4, h1_5]) rfl
  refine ⟨fun h1_6 => ?_, fun h1_6 => ?_⟩
  · skip
    refine zz_i ok rfl trivial rfl rfl ?_
    exact zz_pq h (by simp [L_count, nsv, h1_0, h1_1, h1_2, h1_3, h1_4, h1_5, h1_6]) rfl
  refine ⟨fun h1_7 => ?_, fun h1_7 => ?_⟩
  · skip
    refine zz_i ok rfl trivial rfl rfl ?_
    exact zz_pq h (by simp [L_count, nsv, h1_0, h1_1, h1_2, h1_3, h1_4, h1_5, h1_6, h1_7]) rfl
  refine ⟨fun h1_8 => ?_, fun h1_8 => ?_⟩
  · skip
    refine zz_i ok rfl trivial rfl rfl ?_
    exact zz_pq h (by simp [L_count, nsv, h1_0, h1_1, h1_2, h1_3, h1_4, h1_5, h1_6, h1_7, h1_8]) rfl
  refine ⟨fun h1_9 => ?_, fun h1_9 => ?_⟩
  · skip
    refine zz_cV ok rfl trivial rfl lk_Le_223 ca_Wo_holders rfl rfl rfl rfl rfl (sp_Wo_holders hG ?_)
    refine zz_i ok rfl trivial rfl rfl ?_
    exact zz_pq h (by simp [L_count, nsv, h1_0, h1_1, h1_2, h1_3, h1_4, h1_5, h1_6, h1_7, h1_8, h1_9]) rfl
  refine ⟨fun h1_10 => ?_, fun h1_10 => ?_⟩
  · skip
    refine zz_cV ok rfl trivial rfl lk_Le_267 ca_Wo_linksUp rfl rfl rfl rfl rfl (sp_Wo_linksUp hG ?_)
    refine zz_i ok rfl trivial rfl rfl ?_
    exact zz_pq h (by simp [L_count, nsv, h1_0, h1_1, h1_2, h1_3, h1_4, h1_5, h1_6, h1_7, h1_8, h1_9, h1_10]) rfl
  refine zz_i ok rfl trivial rfl rfl ?_
  exact zz_pq h (by simp [L_count, nsv, h1_0, h1_1, h1_2, h1_3, h1_4, h1_5, h1_6, h1_7, h1_8, h1_9, h1_10]) rfl
