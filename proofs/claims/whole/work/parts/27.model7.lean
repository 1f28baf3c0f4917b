def md_s (M : zM) (s : Nat) (h : Int64) : Int64 := lf (fun k => q M (476 + 160 * s + k)) (4 * mn M (51 + s)) (lf (fun i => m_log M (nI s) (nI i)) 5 (lf (fun i => m_known M (nI s) (nI i)) 5 (mxl (mxl (mxl h (m_rd M s)) (q M (6 + s))) (m_holds M (nI s)))))
def md_S (M : zM) : Nat → Int64 → Int64
  | 0, h => h
  | k + 1, h => md_s M k (md_S M k h)
def m_digest (M : zM) : Int64 := lf (fun i => m_reason M (nI i)) 5 (lf (fun k => q M (1639 + k)) 8 (lf (fun k => q M (1439 + k)) (4 * mn M 1437) (md_S M 5 (lf (fun i => m_count M (nI i)) 11 2525))))
theorem zset_self {M : zM} {r : zR} {i : Nat} {v : Int32} (h : M.1 r i = v) : zz_set M r i v = M := by
  refine Prod.ext (funext fun x => funext fun j => ?_) rfl
  rw [zz_gs]; split
  · next e => rw [e.1, e.2, h]
  · rfl
theorem zset_set (M : zM) (r : zR) (i : Nat) (v w : Int32) : zz_set (zz_set M r i v) r i w = zz_set M r i w := by
  refine Prod.ext (funext fun x => funext fun j => ?_) rfl
  rw [zz_gs, zz_gs, zz_gs]; split <;> rfl
theorem zset_comm {M : zM} {r r2 : zR} {i i2 : Nat} {v w : Int32} (h : ¬ (r = r2 ∧ i = i2)) : zz_set (zz_set M r i v) r2 i2 w = zz_set (zz_set M r2 i2 w) r i v := by
  refine Prod.ext (funext fun x => funext fun j => ?_) rfl
  simp only [zz_gs]
  by_cases h1 : x = r ∧ j = i
  · by_cases h2 : x = r2 ∧ j = i2
    · exact absurd ⟨h1.1.symm.trans h2.1, h1.2.symm.trans h2.2⟩ h
    · rw [if_neg h2, if_pos h1, if_pos h1]
  · rw [if_neg h1, if_neg h1]
/-- the byte at a place; behind the text: -1 -/
def pb (T : Nat → Int32) (n k : Nat) : Int32 := if k < n then T k else -1
def psk (T : Nat → Int32) (n : Nat) : Nat → Nat → Nat
  | 0, p => p
  | f + 1, p => if pb T n p = 32 then psk T n f (p + 1) else p
def pno (x : Int32) : Int32 := if x = 104 ∨ x = 119 then 3 else if x = 97 ∨ x = 114 ∨ x = 115 ∨ x = 99 ∨ x = 109 then 2 else if x = 103 ∨ x = 98 ∨ x = 112 then 1 else -1000
def pdg (x : Int32) : Bool := !decide (x < 48) && !decide (57 < x)
def pds (T : Nat → Int32) (n : Nat) : Nat → Nat → Int32 → Nat × Int32
  | 0, p, v => (p, v)
  | f + 1, p, v => if pdg (pb T n p) = true then pds T n f (p + 1) (10 * v + pb T n p - 48) else (p, v)
theorem psk_in (T : Nat → Int32) (n : Nat) : ∀ f p, p ≤ n → p ≤ psk T n f p ∧ psk T n f p ≤ n
  | 0, p, h => ⟨Nat.le_refl _, h⟩
  | f + 1, p, h => by
    unfold psk; split
    · next e =>
      have hp : p < n := by
        rcases Nat.lt_or_ge p n with z | z
        · exact z
        · rw [pb, if_neg (by omega)] at e; exact absurd e (by decide)
      have := psk_in T n f (p + 1) hp
      exact ⟨by omega, this.2⟩
    · exact ⟨Nat.le_refl _, h⟩
theorem pds_in (T : Nat → Int32) (n : Nat) : ∀ f p v, p ≤ n → p ≤ (pds T n f p v).1 ∧ (pds T n f p v).1 ≤ n
  | 0, p, v, h => ⟨Nat.le_refl _, h⟩
  | f + 1, p, v, h => by
    unfold pds; split
    · next e =>
      have hp : p < n := by
        rcases Nat.lt_or_ge p n with z | z
        · exact z
        · rw [pb, if_neg (by omega)] at e; exact absurd e (by decide)
      have := pds_in T n f (p + 1) (10 * v + pb T n p - 48) hp
      exact ⟨by omega, this.2⟩
    · exact ⟨Nat.le_refl _, h⟩
abbrev mpos (M : zM) : Nat := zz_ix (M.1 (6, 0, 0) 10)
abbrev mcal (M : zM) : Nat := zz_ix (M.1 (6, 0, 0) 9)
def m_skp (M : zM) (n : Nat) : zM := zz_set M (6, 0, 0) 10 (nI (psk (M.1 (23, 0, 0)) n (n - mpos M) (mpos M)))
def m_rn0 (M : zM) (n t : Nat) : zM := zz_set (zz_set M (6, 0, 0) 10 (nI (pds (M.1 (23, 0, 0)) n 3 (mpos M) 0).1)) (25, 0, 0) t (pds (M.1 (23, 0, 0)) n 3 (mpos M) 0).2
def m_rnb (M : zM) (n : Nat) : Bool := decide (mpos M < (pds (M.1 (23, 0, 0)) n 3 (mpos M) 0).1) && !pdg (pb (M.1 (23, 0, 0)) n (pds (M.1 (23, 0, 0)) n 3 (mpos M) 0).1)
def m_rdn (M : zM) (n t : Nat) : zM := if m_rnb M n = true then m_skp (m_rn0 M n t) n else m_rn0 M n t
def m_rdk (n c : Nat) : Nat → Nat → zM → Bool × zM
  | 0, _, M => (true, M)
  | f + 1, k, M => if m_rnb M n = true then m_rdk n c f (k + 1) (m_rdn M n (4 * c + k)) else (false, m_rdn M n (4 * c + k))
def m_rc0 (M : zM) (n : Nat) : zM := m_skp (zz_set (zz_set M (25, 0, 0) (4 * mcal M) (pb (M.1 (23, 0, 0)) n (mpos M))) (6, 0, 0) 10 (nI (mpos M + 1))) n
def m_rcR (M : zM) (n : Nat) : Bool × zM := m_rdk n (mcal M) (zz_ix (pno (pb (M.1 (23, 0, 0)) n (mpos M)))) 1 (m_rc0 M n)
def m_rdc (M : zM) (n : Nat) : Bool × zM :=
  if pno (pb (M.1 (23, 0, 0)) n (mpos M)) = -1000 then (false, M) else
  if (m_rcR M n).1 = false then (false, (m_rcR M n).2) else
  if ¬ pb (M.1 (23, 0, 0)) n (mpos (m_rcR M n).2) = 59 then (false, (m_rcR M n).2) else
  (true, zz_set (m_skp (zz_set (m_rcR M n).2 (6, 0, 0) 10 (nI (mpos (m_rcR M n).2 + 1))) n) (6, 0, 0) 9 (nI (mcal M + 1)))
def m_rl (n : Nat) : Nat → zM → Bool × zM
  | 0, M => (true, M)
  | f + 1, M => if mpos M < n then (if (m_rdc M n).1 = true then m_rl n f (m_rdc M n).2 else (m_rdc M n)) else (true, M)
def m_do (M : zM) (k : Nat) : Int32 × zM :=
  if M.1 (25, 0, 0) (4 * k) = 97 then m_acquire M (M.1 (25, 0, 0) (4 * k + 1)) (M.1 (25, 0, 0) (4 * k + 2)) else
  if M.1 (25, 0, 0) (4 * k) = 98 then m_barrier M (M.1 (25, 0, 0) (4 * k + 1)) else
  if M.1 (25, 0, 0) (4 * k) = 103 then m_giveUp M (M.1 (25, 0, 0) (4 * k + 1)) else
  if M.1 (25, 0, 0) (4 * k) = 104 then m_handOver M (M.1 (25, 0, 0) (4 * k + 1)) (M.1 (25, 0, 0) (4 * k + 2)) (M.1 (25, 0, 0) (4 * k + 3)) else
  if M.1 (25, 0, 0) (4 * k) = 112 then m_pass M (M.1 (25, 0, 0) (4 * k + 1)) else
  if M.1 (25, 0, 0) (4 * k) = 114 then m_renew M (M.1 (25, 0, 0) (4 * k + 1)) (M.1 (25, 0, 0) (4 * k + 2)) else
  if M.1 (25, 0, 0) (4 * k) = 115 then m_setState M (M.1 (25, 0, 0) (4 * k + 1)) (M.1 (25, 0, 0) (4 * k + 2)) else
  if M.1 (25, 0, 0) (4 * k) = 119 then m_write M (M.1 (25, 0, 0) (4 * k + 1)) (M.1 (25, 0, 0) (4 * k + 2)) (M.1 (25, 0, 0) (4 * k + 3)) else
  m_setLink M (M.1 (25, 0, 0) (4 * k + 1)) (M.1 (25, 0, 0) (4 * k + 2)) (if M.1 (25, 0, 0) (4 * k) = 109 then 1 else 0)
def m_d1 (k : Nat) (M : zM) : zM := zz_set (m_do M k).2 (24, 0, 0) k (m_do M k).1
theorem mi7 {a : Nat} (ha : a < 1000) (d : Nat) (hd : d ≤ 1000) : zz_ix (OfNat.ofNat d * nI a) = OfNat.ofNat d * a := by
  have h1 : d * a ≤ 1000 * 1000 := Nat.mul_le_mul hd (by omega)
  rw [ni_lit, ni_mul]; exact zz_ixn (n := d * a) (by omega)
theorem mi7p {a : Nat} (ha : a < 1000) (d e : Nat) (hd : d ≤ 1000) (he : e ≤ 1000) : zz_ix (OfNat.ofNat d * nI a + OfNat.ofNat e) = OfNat.ofNat d * a + OfNat.ofNat e := by
  have h1 : d * a ≤ 1000 * 1000 := Nat.mul_le_mul hd (by omega)
  rw [ni_lit, ni_lit, ni_mul, nI_add]; exact zz_ixn (n := d * a + e) (by omega)
theorem vi7 {d a N : Nat} (h : OfNat.ofNat d * a < N) (hN : N ≤ 100000) : vp_in (OfNat.ofNat d * nI a) N := by
  rw [ni_lit, ni_mul]; exact ni_in h hN
theorem vi7p {d a e N : Nat} (h : OfNat.ofNat d * a + OfNat.ofNat e < N) (hN : N ≤ 100000) : vp_in (OfNat.ofNat d * nI a + OfNat.ofNat e) N := by
  rw [ni_lit, ni_lit, ni_mul, nI_add]; exact ni_in h hN
theorem sp_Mo_mixes {G : zG} {post : Option zV → zM → Prop} {M : zM} {x : Int32} (hG : zz_go G) (h : post none (zz_setl M (mxl M.2 x))) : zz_T G md_Mo_mixes [.inr (.inr (6, 0, 0)), .inr (.inl x.toInt64)] M post := by
  refine en_Mo_mixes hG rfl (fun Z ok => ?_)
  refine zz_v ok rfl trivial rfl rfl ?_
  exact h
theorem sp_Mo_mixesServer {G : zG} {post : Option zV → zM → Prop} {M : zM} {s : Nat} {a : Int32} (hm : mw M) (hG : zz_go G) (ea : a = nI s) (hs : s < 5) (h : post none (zz_setl M (md_s M s M.2))) : zz_T G md_Mo_mixesServer [.inr (.inr (6, 0, 0)), .inl a] M post := by
  refine en_Mo_mixesServer hG rfl (fun Z ok => ?_)
  subst ea
  have hl := mw_len hm hs
  refine zz_cV ok rfl trivial rfl lk_Mo_36 ca_Mo_reading rfl rfl rfl rfl rfl (sp_Mo_reading hG rfl hs ?_)
  refine zz_cV ok rfl trivial rfl lk_Mo_197 ca_Mo_mixes rfl rfl rfl rfl rfl (sp_Mo_mixes hG ?_)
  refine zz_cV ok rfl (by and_intros <;> first | exact True.intro | with_reducible exact v0 | with_reducible exact v1436 | with_reducible exact v1437 | with_reducible exact v1438 | with_reducible exact v1647 | with_reducible exact v1728 | with_reducible exact v1734 | with_reducible exact vi1 (by omega) (by decide) | with_reducible exact vi2 (by omega) (by decide) | with_reducible exact vi3 (by omega) (by decide) | with_reducible exact vi1p (by omega) (by decide) | with_reducible exact vi2p (by omega) (by decide) | with_reducible exact vi4 (by omega) (by decide) | with_reducible exact vi4p (by omega) (by decide) | with_reducible exact vi5 (by omega) (by decide) | with_reducible exact vi5p (by omega) (by decide) | trivial | exact vi0 (by decide) (by decide)) rfl lk_Mo_197 ca_Mo_mixes rfl rfl rfl rfl rfl (sp_Mo_mixes hG ?_)
  refine zz_cV ok rfl trivial rfl lk_Mo_201 ca_Mo_holds rfl rfl rfl rfl rfl (sp_Mo_holds hG ?_)
  refine zz_cV ok rfl trivial rfl lk_Mo_197 ca_Mo_mixes rfl rfl rfl rfl rfl (sp_Mo_mixes hG ?_)
  have lp36 : ∀ (f k : Nat), 5 - k < f → k ≤ 5 → ∀ (x : Int32) (y : Int64), x = nI k → y = lf (fun i => m_known M (nI s) (nI i)) k (mxl (mxl (mxl M.2 (m_rd M s)) (q M (6 + s))) (m_holds M (nI s))) → zz_W G Z md_Mo_mixesServer post 36 [(2, .inl x), (1, .inl (nI s)), (0, .inr (.inr (6, 0, 0)))] [] (zz_setl M y) := by
    intro f
    induction f with
    | zero => intro k hf; exact absurd hf (Nat.not_lt_zero _)
    | succ f ih => ?_
    intro k hf hk x y ex ey
    subst ex
    refine zz_b ok rfl trivial rfl (fun h38 => ?_) (fun h38 => ?_)
    · skip
      rw [ni_lit, ni_ltn (by omega) (by decide)] at h38
      have hkN : k < 5 := by omega
      refine zz_cV ok rfl trivial rfl lk_Mo_204 ca_Mo_known rfl rfl rfl rfl rfl (sp_Mo_known hG ?_)
      refine zz_cV ok rfl trivial rfl lk_Mo_197 ca_Mo_mixes rfl rfl rfl rfl rfl (sp_Mo_mixes hG ?_)
      refine zz_g ok rfl trivial ?_
      refine zz_pm [2, 1, 0] rfl ?_
      exact ih (k + 1) (by omega) (by omega) _ _ (nI_1 k) (by rw [lf1, ← ey]; rfl)
    · skip
      rw [ni_lit, ni_ltn (by omega) (by decide)] at h38
      have hkN : k = 5 := by omega
      subst hkN
      have lp60 : ∀ (f k : Nat), 5 - k < f → k ≤ 5 → ∀ (x : Int32) (y : Int64), x = nI k → y = lf (fun i => m_log M (nI s) (nI i)) k (lf (fun i => m_known M (nI s) (nI i)) 5 (mxl (mxl (mxl M.2 (m_rd M s)) (q M (6 + s))) (m_holds M (nI s)))) → zz_W G Z md_Mo_mixesServer post 60 [(2, .inl x), (1, .inl (nI s)), (0, .inr (.inr (6, 0, 0)))] [] (zz_setl M y) := by
        intro f
        induction f with
        | zero => intro k hf; exact absurd hf (Nat.not_lt_zero _)
        | succ f ih => ?_
        intro k hf hk x y ex ey
        subst ex
        refine zz_b ok rfl trivial rfl (fun h62 => ?_) (fun h62 => ?_)
        · skip
          rw [ni_lit, ni_ltn (by omega) (by decide)] at h62
          have hkN : k < 5 := by omega
          refine zz_cV ok rfl trivial rfl lk_Mo_207 ca_Mo_log rfl rfl rfl rfl rfl (sp_Mo_log hm hG ?_)
          refine zz_cV ok rfl trivial rfl lk_Mo_197 ca_Mo_mixes rfl rfl rfl rfl rfl (sp_Mo_mixes hG ?_)
          refine zz_g ok rfl trivial ?_
          refine zz_pm [2, 1, 0] rfl ?_
          exact ih (k + 1) (by omega) (by omega) _ _ (nI_1 k) (by rw [lf1, ← ey]; rfl)
        · skip
          rw [ni_lit, ni_ltn (by omega) (by decide)] at h62
          have hkN : k = 5 := by omega
          subst hkN
          have lp84 : ∀ (f k : Nat), 4 * mn M (51 + s) - k < f → k ≤ 4 * mn M (51 + s) → ∀ (x : Int32) (y : Int64), x = nI k → y = lf (fun k => q M (476 + 160 * s + k)) k (lf (fun i => m_log M (nI s) (nI i)) 5 (lf (fun i => m_known M (nI s) (nI i)) 5 (mxl (mxl (mxl M.2 (m_rd M s)) (q M (6 + s))) (m_holds M (nI s))))) → zz_W G Z md_Mo_mixesServer post 84 [(2, .inl x), (1, .inl (nI s)), (0, .inr (.inr (6, 0, 0)))] [] (zz_setl M y) := by
            intro f
            induction f with
            | zero => intro k hf; exact absurd hf (Nat.not_lt_zero _)
            | succ f ih => ?_
            intro k hf hk x y ex ey
            subst ex
            refine zz_b ok rfl (by and_intros <;> first | exact True.intro | with_reducible exact v0 | with_reducible exact v1436 | with_reducible exact v1437 | with_reducible exact v1438 | with_reducible exact v1647 | with_reducible exact v1728 | with_reducible exact v1734 | with_reducible exact vi1 (by omega) (by decide) | with_reducible exact vi2 (by omega) (by decide) | with_reducible exact vi3 (by omega) (by decide) | with_reducible exact vi1p (by omega) (by decide) | with_reducible exact vi2p (by omega) (by decide) | with_reducible exact vi4 (by omega) (by decide) | with_reducible exact vi4p (by omega) (by decide) | with_reducible exact vi5 (by omega) (by decide) | with_reducible exact vi5p (by omega) (by decide) | trivial | exact vi0 (by decide) (by decide)) rfl (fun h96 => ?_) (fun h96 => ?_)
            · skip
              have h96 : nI k < 4 * M.1 (20, 0, 0) (zz_ix (51 + nI s)) := h96
              simp +decide only [mi1 (n := s) (by omega)] at h96
              rw [hl.1, ni_lit, ni_mul, ni_ltn (by omega) (by omega)] at h96
              refine zz_cV ok rfl (by and_intros <;> first | exact True.intro | with_reducible exact v0 | with_reducible exact v1436 | with_reducible exact v1437 | with_reducible exact v1438 | with_reducible exact v1647 | with_reducible exact v1728 | with_reducible exact v1734 | with_reducible exact vi1 (by omega) (by decide) | with_reducible exact vi2 (by omega) (by decide) | with_reducible exact vi3 (by omega) (by decide) | with_reducible exact vi1p (by omega) (by decide) | with_reducible exact vi2p (by omega) (by decide) | with_reducible exact vi4 (by omega) (by decide) | with_reducible exact vi4p (by omega) (by decide) | with_reducible exact vi5 (by omega) (by decide) | with_reducible exact vi5p (by omega) (by decide) | trivial | exact vi0 (by decide) (by decide)) rfl lk_Mo_47 ca_Mo_part rfl rfl rfl rfl rfl (sp_Mo_part (i := k / 4) (w := k % 4) hG rfl hs (by rw [show (4 : Int32) = nI 4 from rfl, pk_div (by omega) (by decide) (by decide)]) (by omega) (by rw [show (4 : Int32) = nI 4 from rfl, pk_rem (by omega) (by decide) (by decide)]) (by omega) ?_)
              refine zz_cV ok rfl trivial rfl lk_Mo_197 ca_Mo_mixes rfl rfl rfl rfl rfl (sp_Mo_mixes hG ?_)
              refine zz_g ok rfl trivial ?_
              refine zz_pm [2, 1, 0] rfl ?_
              exact ih (k + 1) (by omega) (by omega) _ _ (nI_1 k) (by rw [lf1, ← ey, ← m_pt4]; rfl)
            · skip
              have h96 : ¬ nI k < 4 * M.1 (20, 0, 0) (zz_ix (51 + nI s)) := h96
              simp +decide only [mi1 (n := s) (by omega)] at h96
              rw [hl.1, ni_lit, ni_mul, ni_ltn (by omega) (by omega)] at h96
              have hk4 : k = 4 * mn M (51 + s) := by omega
              subst hk4
              refine zz_v ok rfl trivial rfl rfl ?_
              exact zz_pq h rfl (by rw [ey]; rfl)
          refine zz_g ok rfl trivial ?_
          refine zz_pm [2, 1, 0] rfl ?_
          exact lp84 (4 * mn M (51 + s) + 1) 0 (by omega) (by omega) _ _ rfl (by rw [lf0]; first | exact ey | rfl)
      refine zz_g ok rfl trivial ?_
      refine zz_pm [2, 1, 0] rfl ?_
      exact lp60 (5 + 1) 0 (by omega) (by omega) _ _ rfl (by rw [lf0]; first | exact ey | rfl)
  refine zz_g ok rfl trivial ?_
  refine zz_pm [2, 1, 0] rfl ?_
  simp +decide only [mi1 (n := s) (by omega)]
  exact lp36 6 0 (by omega) (by omega) _ _ rfl (by rw [lf0]; rfl)
theorem sp_Mo_digest {G : zG} {post : Option zV → zM → Prop} {M : zM} (hm : mw M) (hG : zz_go G) (h : post (some (.inr (.inl (m_digest M)))) (zz_setl M (m_digest M))) : zz_T G md_Mo_digest [.inr (.inr (6, 0, 0))] M post := by
  refine en_Mo_digest hG rfl (fun Z ok => ?_)
  have hl := mw_kept hm
  have lp9 : ∀ (f k : Nat), 11 - k < f → k ≤ 11 → ∀ (x : Int32) (y : Int64), x = nI k → y = lf (fun i => m_count M (nI i)) k (2525) → zz_W G Z md_Mo_digest post 9 [(1, .inl x), (0, .inr (.inr (6, 0, 0)))] [] (zz_setl M y) := by
    intro f
    induction f with
    | zero => intro k hf; exact absurd hf (Nat.not_lt_zero _)
    | succ f ih => ?_
    intro k hf hk x y ex ey
    subst ex
    refine zz_b ok rfl trivial rfl (fun h12 => ?_) (fun h12 => ?_)
    · skip
      rw [ni_lit, ni_ltn (by omega) (by decide)] at h12
      have hkN : k < 11 := by omega
      refine zz_cV ok rfl trivial rfl lk_Mo_212 ca_Mo_count rfl rfl rfl rfl rfl (sp_Mo_count hG ?_)
      refine zz_cV ok rfl trivial rfl lk_Mo_197 ca_Mo_mixes rfl rfl rfl rfl rfl (sp_Mo_mixes hG ?_)
      refine zz_g ok rfl trivial ?_
      refine zz_pm [1, 0] rfl ?_
      exact ih (k + 1) (by omega) (by omega) _ _ (nI_1 k) (by rw [lf1, ← ey]; rfl)
    · skip
      rw [ni_lit, ni_ltn (by omega) (by decide)] at h12
      have hkN : k = 11 := by omega
      subst hkN
      have lp33 : ∀ (f k : Nat), 5 - k < f → k ≤ 5 → ∀ (x : Int32) (y : Int64), x = nI k → y = md_S M k (lf (fun i => m_count M (nI i)) 11 2525) → zz_W G Z md_Mo_digest post 33 [(1, .inl x), (0, .inr (.inr (6, 0, 0)))] [] (zz_setl M y) := by
        intro f
        induction f with
        | zero => intro k hf; exact absurd hf (Nat.not_lt_zero _)
        | succ f ih => ?_
        intro k hf hk x y ex ey
        subst ex
        refine zz_b ok rfl trivial rfl (fun h35 => ?_) (fun h35 => ?_)
        · skip
          rw [ni_lit, ni_ltn (by omega) (by decide)] at h35
          have hkN : k < 5 := by omega
          refine zz_cV ok rfl trivial rfl lk_Mo_215 ca_Mo_mixesServer rfl rfl rfl rfl rfl (sp_Mo_mixesServer hm hG rfl hkN ?_)
          refine zz_g ok rfl trivial ?_
          refine zz_pm [1, 0] rfl ?_
          exact ih (k + 1) (by omega) (by omega) _ _ (nI_1 k) (by rw [md_S, ← ey]; rfl)
        · skip
          rw [ni_lit, ni_ltn (by omega) (by decide)] at h35
          have hkN : k = 5 := by omega
          subst hkN
          have lp51 : ∀ (f k : Nat), 4 * mn M 1437 - k < f → k ≤ 4 * mn M 1437 → ∀ (x : Int32) (y : Int64), x = nI k → y = lf (fun k => q M (1439 + k)) k (md_S M 5 (lf (fun i => m_count M (nI i)) 11 2525)) → zz_W G Z md_Mo_digest post 51 [(1, .inl x), (0, .inr (.inr (6, 0, 0)))] [] (zz_setl M y) := by
            intro f
            induction f with
            | zero => intro k hf; exact absurd hf (Nat.not_lt_zero _)
            | succ f ih => ?_
            intro k hf hk x y ex ey
            subst ex
            refine zz_b ok rfl (by and_intros <;> first | exact True.intro | with_reducible exact v0 | with_reducible exact v1436 | with_reducible exact v1437 | with_reducible exact v1438 | with_reducible exact v1647 | with_reducible exact v1728 | with_reducible exact v1734 | with_reducible exact vi1 (by omega) (by decide) | with_reducible exact vi2 (by omega) (by decide) | with_reducible exact vi3 (by omega) (by decide) | with_reducible exact vi1p (by omega) (by decide) | with_reducible exact vi2p (by omega) (by decide) | with_reducible exact vi4 (by omega) (by decide) | with_reducible exact vi4p (by omega) (by decide) | with_reducible exact vi5 (by omega) (by decide) | with_reducible exact vi5p (by omega) (by decide) | trivial | exact vi0 (by decide) (by decide)) rfl (fun h62 => ?_) (fun h62 => ?_)
            · skip
              have h62 : nI k < 4 * M.1 (20, 0, 0) 1437 := h62
              rw [hl.1, ni_lit, ni_mul, ni_ltn (by omega) (by omega)] at h62
              refine zz_cV ok rfl (by and_intros <;> first | exact True.intro | with_reducible exact v0 | with_reducible exact v1436 | with_reducible exact v1437 | with_reducible exact v1438 | with_reducible exact v1647 | with_reducible exact v1728 | with_reducible exact v1734 | with_reducible exact vi1 (by omega) (by decide) | with_reducible exact vi2 (by omega) (by decide) | with_reducible exact vi3 (by omega) (by decide) | with_reducible exact vi1p (by omega) (by decide) | with_reducible exact vi2p (by omega) (by decide) | with_reducible exact vi4 (by omega) (by decide) | with_reducible exact vi4p (by omega) (by decide) | with_reducible exact vi5 (by omega) (by decide) | with_reducible exact vi5p (by omega) (by decide) | trivial | exact vi0 (by decide) (by decide)) rfl lk_Mo_197 ca_Mo_mixes rfl rfl rfl rfl rfl (sp_Mo_mixes hG ?_)
              refine zz_g ok rfl trivial ?_
              refine zz_pm [1, 0] rfl ?_
              exact ih (k + 1) (by omega) (by omega) _ _ (nI_1 k) (by simp +decide only [mi1 (n := k) (by omega)]; rw [lf1, ← ey]; rfl)
            · skip
              have h62 : ¬ nI k < 4 * M.1 (20, 0, 0) 1437 := h62
              rw [hl.1, ni_lit, ni_mul, ni_ltn (by omega) (by omega)] at h62
              have hk4 : k = 4 * mn M 1437 := by omega
              subst hk4
              have lp88 : ∀ (f k : Nat), 8 - k < f → k ≤ 8 → ∀ (x : Int32) (y : Int64), x = nI k → y = lf (fun k => q M (1639 + k)) k (lf (fun k => q M (1439 + k)) (4 * mn M 1437) (md_S M 5 (lf (fun i => m_count M (nI i)) 11 2525))) → zz_W G Z md_Mo_digest post 88 [(1, .inl x), (0, .inr (.inr (6, 0, 0)))] [] (zz_setl M y) := by
                intro f
                induction f with
                | zero => intro k hf; exact absurd hf (Nat.not_lt_zero _)
                | succ f ih => ?_
                intro k hf hk x y ex ey
                subst ex
                refine zz_b ok rfl trivial rfl (fun h91 => ?_) (fun h91 => ?_)
                · skip
                  rw [ni_lit, ni_ltn (by omega) (by decide)] at h91
                  have hkN : k < 8 := by omega
                  refine zz_cV ok rfl (by and_intros <;> first | exact True.intro | with_reducible exact v0 | with_reducible exact v1436 | with_reducible exact v1437 | with_reducible exact v1438 | with_reducible exact v1647 | with_reducible exact v1728 | with_reducible exact v1734 | with_reducible exact vi1 (by omega) (by decide) | with_reducible exact vi2 (by omega) (by decide) | with_reducible exact vi3 (by omega) (by decide) | with_reducible exact vi1p (by omega) (by decide) | with_reducible exact vi2p (by omega) (by decide) | with_reducible exact vi4 (by omega) (by decide) | with_reducible exact vi4p (by omega) (by decide) | with_reducible exact vi5 (by omega) (by decide) | with_reducible exact vi5p (by omega) (by decide) | trivial | exact vi0 (by decide) (by decide)) rfl lk_Mo_197 ca_Mo_mixes rfl rfl rfl rfl rfl (sp_Mo_mixes hG ?_)
                  refine zz_g ok rfl trivial ?_
                  refine zz_pm [1, 0] rfl ?_
                  exact ih (k + 1) (by omega) (by omega) _ _ (nI_1 k) (by simp +decide only [mi1 (n := k) (by omega)]; rw [lf1, ← ey]; rfl)
                · skip
                  rw [ni_lit, ni_ltn (by omega) (by decide)] at h91
                  have hkN : k = 8 := by omega
                  subst hkN
                  have lp117 : ∀ (f k : Nat), 5 - k < f → k ≤ 5 → ∀ (x : Int32) (y : Int64), x = nI k → y = lf (fun i => m_reason M (nI i)) k (lf (fun k => q M (1639 + k)) 8 (lf (fun k => q M (1439 + k)) (4 * mn M 1437) (md_S M 5 (lf (fun i => m_count M (nI i)) 11 2525)))) → zz_W G Z md_Mo_digest post 117 [(1, .inl x), (0, .inr (.inr (6, 0, 0)))] [] (zz_setl M y) := by
                    intro f
                    induction f with
                    | zero => intro k hf; exact absurd hf (Nat.not_lt_zero _)
                    | succ f ih => ?_
                    intro k hf hk x y ex ey
                    subst ex
                    refine zz_b ok rfl trivial rfl (fun h119 => ?_) (fun h119 => ?_)
                    · skip
                      rw [ni_lit, ni_ltn (by omega) (by decide)] at h119
                      have hkN : k < 5 := by omega
                      refine zz_cV ok rfl trivial rfl lk_Mo_218 ca_Mo_reason rfl rfl rfl rfl rfl (sp_Mo_reason hG ?_)
                      refine zz_cV ok rfl trivial rfl lk_Mo_197 ca_Mo_mixes rfl rfl rfl rfl rfl (sp_Mo_mixes hG ?_)
                      refine zz_g ok rfl trivial ?_
                      refine zz_pm [1, 0] rfl ?_
                      exact ih (k + 1) (by omega) (by omega) _ _ (nI_1 k) (by rw [lf1, ← ey]; rfl)
                    · skip
                      rw [ni_lit, ni_ltn (by omega) (by decide)] at h119
                      have hkN : k = 5 := by omega
                      subst hkN
                      refine zz_l ok rfl trivial rfl rfl ?_
                      exact zz_pq h (by rw [m_digest, ← ey]; rfl) (by rw [m_digest, ← ey])
                  refine zz_g ok rfl trivial ?_
                  refine zz_pm [1, 0] rfl ?_
                  exact lp117 (5 + 1) 0 (by omega) (by omega) _ _ rfl (by rw [lf0]; first | exact ey | rfl)
              refine zz_g ok rfl trivial ?_
              refine zz_pm [1, 0] rfl ?_
              exact lp88 (8 + 1) 0 (by omega) (by omega) _ _ rfl (by rw [lf0]; first | exact ey | rfl)
          refine zz_g ok rfl trivial ?_
          refine zz_pm [1, 0] rfl ?_
          exact lp51 (4 * mn M 1437 + 1) 0 (by omega) (by omega) _ _ rfl (by rw [lf0]; first | exact ey | rfl)
      refine zz_g ok rfl trivial ?_
      refine zz_pm [1, 0] rfl ?_
      exact lp33 6 0 (by omega) (by omega) _ _ rfl (by rw [md_S]; exact ey)
  refine zz_g ok rfl trivial ?_
  refine zz_pm [1, 0] rfl ?_
  exact lp9 (11 + 1) 0 (by omega) (by omega) _ _ rfl (by rw [lf0]; first | exact ey | rfl)
theorem sp_Mo_byteAt {G : zG} {post : Option zV → zM → Prop} {M : zM} {n k : Nat} {a : Int32} (hG : zz_go G) (hl : M.1 (6, 0, 0) 5 = nI n) (hn : n ≤ 100) (ea : a = nI k) (hk : k < 1000) (h : post (some (.inl (pb (M.1 (23, 0, 0)) n k))) M) : zz_T G md_Mo_byteAt [.inr (.inr (6, 0, 0)), .inl a] M post := by
  refine en_Mo_byteAt hG rfl (fun Z ok => ?_)
  subst ea
  refine zz_b ok rfl trivial rfl (fun h5 => ?_) (fun h5 => ?_)
  · skip
    rw [hl, ni_ltn (by omega) (by omega)] at h5
    refine zz_i ok rfl ⟨ni_in (by omega) (by decide), trivial⟩ rfl rfl ?_
    exact zz_pq h (by simp [pb, h5, zz_ixn (show k < 2147483648 by omega)]) rfl
  · skip
    rw [hl, ni_ltn (by omega) (by omega)] at h5
    refine zz_i ok rfl trivial rfl rfl ?_
    exact zz_pq h (by simp [pb, h5, zz_ixn (show k < 2147483648 by omega)]) rfl
theorem sp_Mo_skips {G : zG} {post : Option zV → zM → Prop} {M : zM} {n p : Nat} (hG : zz_go G) (hl : M.1 (6, 0, 0) 5 = nI n) (hn : n ≤ 100) (hp : M.1 (6, 0, 0) 10 = nI p) (hpn : p ≤ n) (h : post none (m_skp M n)) : zz_T G md_Mo_skips [.inr (.inr (6, 0, 0))] M post := by
  refine en_Mo_skips hG rfl (fun Z ok => ?_)
  have epx : mpos M = p := ni_ix hp (by omega)
  unfold m_skp at h
  rw [epx] at h
  have lp0 : ∀ (f k : Nat), n - p - k < f → k ≤ n - p → ∀ (M' : zM), M' = zz_set M (6, 0, 0) 10 (nI (p + k)) → psk (M.1 (23, 0, 0)) n (n - p) p = psk (M.1 (23, 0, 0)) n (n - p - k) (p + k) → zz_W G Z md_Mo_skips post 0 [(0, .inr (.inr (6, 0, 0)))] [] M' := by
    intro f
    induction f with
    | zero => intro k hf; exact absurd hf (Nat.not_lt_zero _)
    | succ f ih => ?_
    intro k hf hk M' eM hs
    have eT : M'.1 (23, 0, 0) = M.1 (23, 0, 0) := by rw [eM]; funext j; rw [zz_gs, if_neg (by simp)]
    refine zz_cV ok rfl trivial rfl lk_Mo_135 ca_Mo_byteAt rfl rfl rfl rfl rfl (sp_Mo_byteAt (k := p + k) hG (by rw [eM, zz_gs, if_neg (by simp)]; exact hl) hn (by rw [eM, zz_gs, if_pos ⟨rfl, rfl⟩]) (by omega) ?_)
    try rw [eT]
    refine zz_b ok rfl trivial rfl (fun h10 => ?_) (fun h10 => ?_)
    · skip
      have hpk : p + k < n := by
        rcases Nat.lt_or_ge (p + k) n with z | z
        · exact z
        · rw [pb, if_neg (by omega)] at h10; exact absurd h10 (by decide)
      refine zz_g ok rfl trivial ?_
      refine zz_pm [0] rfl ?_
      exact ih (k + 1) (by omega) (by omega) _ (by rw [eM, zset_set]; simp only [zz_gs]; rw [if_pos ⟨trivial, trivial⟩, nI_1]; rfl) (by rw [hs, show n - p - k = (n - p - (k + 1)) + 1 by omega, psk, if_pos h10]; rfl)
    · skip
      refine zz_v ok rfl trivial rfl rfl ?_
      exact zz_pq h rfl (by
        rw [eM, hs]
        congr 2
        cases hf2 : n - p - k with
        | zero => rfl
        | succ f => rw [psk, if_neg h10])
  refine zz_pm [0] rfl ?_
  exact lp0 (n - p + 1) 0 (by omega) (by omega) _ (zset_self hp).symm rfl
theorem sp_Mo_numbersOf {G : zG} {post : Option zV → zM → Prop} {M : zM} {x : Int32} (hG : zz_go G) (h : post (some (.inl (pno x))) M) : zz_T G md_Mo_numbersOf [.inl x] M post := by
  refine en_Mo_numbersOf hG rfl (fun Z ok => ?_)
  refine zz_g ok rfl trivial ?_
  refine zz_tsw ok sw_Mo_numbersOf_1 [(97, 110), (98, 112), (99, 110), (100, 114), (101, 114), (102, 114), (103, 112), (104, 108), (105, 114), (106, 114), (107, 114), (108, 114), (109, 110), (110, 114), (111, 114), (112, 112), (113, 114), (114, 110), (115, 110), (116, 114), (117, 114), (118, 114), (119, 108)] 114 (by decide +kernel) ?_
  refine ⟨fun h1_97 => ?_, fun h1_97 => ?_⟩
  · skip
    refine zz_i ok rfl trivial rfl rfl ?_
    exact zz_pq h (by simp [pno, h1_97]) rfl
  refine ⟨fun h1_98 => ?_, fun h1_98 => ?_⟩
  · skip
    refine zz_i ok rfl trivial rfl rfl ?_
    exact zz_pq h (by simp [pno, h1_97, h1_98]) rfl
  refine ⟨fun h1_99 => ?_, fun h1_99 => ?_⟩
  · skip
    refine zz_i ok rfl trivial rfl rfl ?_
    exact zz_pq h (by simp [pno, h1_97, h1_98, h1_99]) rfl
  refine ⟨fun h1_100 => ?_, fun h1_100 => ?_⟩
  · skip
    refine zz_i ok rfl trivial rfl rfl ?_
    exact zz_pq h (by simp [pno, h1_97, h1_98, h1_99, h1_100]) rfl
  refine ⟨fun h1_101 => ?_, fun h1_101 => ?_⟩
  · skip
    refine zz_i ok rfl trivial rfl rfl ?_
    exact zz_pq h (by simp [pno, h1_97, h1_98, h1_99, h1_100, h1_101]) rfl
  refine ⟨fun h1_102 => ?_, fun h1_102 => ?_⟩
  · skip
    refine zz_i ok rfl trivial rfl rfl ?_
    exact zz_pq h (by simp [pno, h1_97, h1_98, h1_99, h1_100, h1_101, h1_102]) rfl
  refine ⟨fun h1_103 => ?_, fun h1_103 => ?_⟩
  · skip
    refine zz_i ok rfl trivial rfl rfl ?_
    exact zz_pq h (by simp [pno, h1_97, h1_98, h1_99, h1_100, h1_101, h1_102, h1_103]) rfl
  refine ⟨fun h1_104 => ?_, fun h1_104 => ?_⟩
  · skip
    refine zz_i ok rfl trivial rfl rfl ?_
    exact zz_pq h (by simp [pno, h1_97, h1_98, h1_99, h1_100, h1_101, h1_102, h1_103, h1_104]) rfl
  refine ⟨fun h1_105 => ?_, fun h1_105 => ?_⟩
  · skip
    refine zz_i ok rfl trivial rfl rfl ?_
    exact zz_pq h (by simp [pno, h1_97, h1_98, h1_99, h1_100, h1_101, h1_102, h1_103, h1_104, h1_105]) rfl
  refine ⟨fun h1_106 => ?_, fun h1_106 => ?_⟩
  · skip
    refine zz_i ok rfl trivial rfl rfl ?_
    exact zz_pq h (by simp [pno, h1_97, h1_98, h1_99, h1_100, h1_101, h1_102, h1_103, h1_104, h1_105, h1_106]) rfl
  refine ⟨fun h1_107 => ?_, fun h1_107 => ?_⟩
  · skip
    refine zz_i ok rfl trivial rfl rfl ?_
    exact zz_pq h (by simp [pno, h1_97, h1_98, h1_99, h1_100, h1_101, h1_102, h1_103, h1_104, h1_105, h1_106, h1_107]) rfl
  refine ⟨fun h1_108 => ?_, fun h1_108 => ?_⟩
  · skip
    refine zz_i ok rfl trivial rfl rfl ?_
    exact zz_pq h (by simp [pno, h1_97, h1_98, h1_99, h1_100, h1_101, h1_102, h1_103, h1_104, h1_105, h1_106, h1_107, h1_108]) rfl
  refine ⟨fun h1_109 => ?_, fun h1_109 => ?_⟩
  · skip
    refine zz_i ok rfl trivial rfl rfl ?_
    exact zz_pq h (by simp [pno, h1_97, h1_98, h1_99, h1_100, h1_101, h1_102, h1_103, h1_104, h1_105, h1_106, h1_107, h1_108, h1_109]) rfl
  refine ⟨fun h1_110 => ?_, fun h1_110 => ?_⟩
  · skip
    refine zz_i ok rfl trivial rfl rfl ?_
    exact zz_pq h (by simp [pno, h1_97, h1_98, h1_99, h1_100, h1_101, h1_102, h1_103, h1_104, h1_105, h1_106, h1_107, h1_108, h1_109, h1_110]) rfl
  refine ⟨fun h1_111 => ?_, fun h1_111 => ?_⟩
  · skip
    refine zz_i ok rfl trivial rfl rfl ?_
    exact zz_pq h (by simp [pno, h1_97, h1_98, h1_99, h1_100, h1_101, h1_102, h1_103, h1_104, h1_105, h1_106, h1_107, h1_108, h1_109, h1_110, h1_111]) rfl
  refine ⟨fun h1_112 => ?_, fun h1_112 => ?_⟩
  · skip
    refine zz_i ok rfl trivial rfl rfl ?_
    exact zz_pq h (by simp [pno, h1_97, h1_98, h1_99, h1_100, h1_101, h1_102, h1_103, h1_104, h1_105, h1_106, h1_107, h1_108, h1_109, h1_110, h1_111, h1_112]) rfl
  refine ⟨fun h1_113 => ?_, fun h1_113 => ?_⟩
  · skip
    refine zz_i ok rfl trivial rfl rfl ?_
    exact zz_pq h (by simp [pno, h1_97, h1_98, h1_99, h1_100, h1_101, h1_102, h1_103, h1_104, h1_105, h1_106, h1_107, h1_108, h1_109, h1_110, h1_111, h1_112, h1_113]) rfl
  refine ⟨fun h1_114 => ?_, fun h1_114 => ?_⟩
  · skip
    refine zz_i ok rfl trivial rfl rfl ?_
    exact zz_pq h (by simp [pno, h1_97, h1_98, h1_99, h1_100, h1_101, h1_102, h1_103, h1_104, h1_105, h1_106, h1_107, h1_108, h1_109, h1_110, h1_111, h1_112, h1_113, h1_114]) rfl
  refine ⟨fun h1_115 => ?_, fun h1_115 => ?_⟩
  · skip
    refine zz_i ok rfl trivial rfl rfl ?_
    exact zz_pq h (by simp [pno, h1_97, h1_98, h1_99, h1_100, h1_101, h1_102, h1_103, h1_104, h1_105, h1_106, h1_107, h1_108, h1_109, h1_110, h1_111, h1_112, h1_113, h1_114, h1_115]) rfl
  refine ⟨fun h1_116 => ?_, fun h1_116 => ?_⟩
  · skip
    refine zz_i ok rfl trivial rfl rfl ?_
    exact zz_pq h (by simp [pno, h1_97, h1_98, h1_99, h1_100, h1_101, h1_102, h1_103, h1_104, h1_105, h1_106, h1_107, h1_108, h1_109, h1_110, h1_111, h1_112, h1_113, h1_114, h1_115, h1_116]) rfl
  refine ⟨fun h1_117 => ?_, fun h1_117 => ?_⟩
  · skip
    refine zz_i ok rfl trivial rfl rfl ?_
    exact zz_pq h (by simp [pno, h1_97, h1_98, h1_99, h1_100, h1_101, h1_102, h1_103, h1_104, h1_105, h1_106, h1_107, h1_108, h1_109, h1_110, h1_111, h1_112, h1_113, h1_114, h1_115, h1_116, h1_117]) rfl
  refine ⟨fun h1_118 => ?_, fun h1_118 => ?_⟩
  · skip
    refine zz_i ok rfl trivial rfl rfl ?_
    exact zz_pq h (by simp [pno, h1_97, h1_98, h1_99, h1_100, h1_101, h1_102, h1_103, h1_104, h1_105, h1_106, h1_107, h1_108, h1_109, h1_110, h1_111, h1_112, h1_113, h1_114, h1_115, h1_116, h1_117, h1_118]) rfl
  refine ⟨fun h1_119 => ?_, fun h1_119 => ?_⟩
  · skip
    refine zz_i ok rfl trivial rfl rfl ?_
    exact zz_pq h (by simp [pno, h1_97, h1_98, h1_99, h1_100, h1_101, h1_102, h1_103, h1_104, h1_105, h1_106, h1_107, h1_108, h1_109, h1_110, h1_111, h1_112, h1_113, h1_114, h1_115, h1_116, h1_117, h1_118, h1_119]) rfl
  refine zz_i ok rfl trivial rfl rfl ?_
  exact zz_pq h (by simp [pno, h1_97, h1_98, h1_99, h1_100, h1_101, h1_102, h1_103, h1_104, h1_105, h1_106, h1_107, h1_108, h1_109, h1_110, h1_111, h1_112, h1_113, h1_114, h1_115, h1_116, h1_117, h1_118, h1_119]) rfl
theorem sp_Mo_readsNumber {G : zG} {post : Option zV → zM → Prop} {M : zM} {n p t : Nat} {a : Int32} (hG : zz_go G) (hl : M.1 (6, 0, 0) 5 = nI n) (hn : n ≤ 100) (hp : M.1 (6, 0, 0) 10 = nI p) (hpn : p ≤ n) (ea : a = nI t) (ht : t < 200) (h : post (some (.inl (zz_bi (m_rnb M n)))) (m_rdn M n t)) : zz_T G md_Mo_readsNumber [.inr (.inr (6, 0, 0)), .inl a] M post := by
  refine en_Mo_readsNumber hG rfl (fun Z ok => ?_)
  subst ea
  have epx : mpos M = p := ni_ix hp (by omega)
  have etx : zz_ix (nI t) = t := zz_ixn (by omega)
  have lp7 : ∀ (f j : Nat), 3 - j < f → j ≤ 3 → ∀ (x3 : Int32) (M' : zM), M' = zz_set M (6, 0, 0) 10 (nI (p + j)) → pds (M.1 (23, 0, 0)) n 3 p 0 = pds (M.1 (23, 0, 0)) n (3 - j) (p + j) x3 → p + j ≤ n → zz_W G Z md_Mo_readsNumber post 7 [(3, .inl x3), (2, .inl (nI p)), (1, .inl (nI t)), (0, .inr (.inr (6, 0, 0)))] [] M' := by
    intro f
    induction f with
    | zero => intro j hf; exact absurd hf (Nat.not_lt_zero _)
    | succ f ih => ?_
    intro j hf hj x3 M' eM hs hpj
    have eT : M'.1 (23, 0, 0) = M.1 (23, 0, 0) := by rw [eM]; funext i; rw [zz_gs, if_neg (by simp)]
    have hl' : M'.1 (6, 0, 0) 5 = nI n := by rw [eM, zz_gs, if_neg (by simp)]; exact hl
    have hp' : M'.1 (6, 0, 0) 10 = nI (p + j) := by rw [eM, zz_gs, if_pos ⟨rfl, rfl⟩]
    refine zz_cV ok rfl trivial rfl lk_Mo_135 ca_Mo_byteAt rfl rfl rfl rfl rfl (sp_Mo_byteAt (k := p + j) hG hl' hn hp' (by omega) ?_)
    rw [eT]
    refine zz_cS ok rfl trivial rfl lk_Mo_32 ca_Mo_in rfl rfl rfl (sp_Mo_in hG ?_)
    refine zz_b ok rfl trivial rfl (fun h22 => ?_) (fun h22 => ?_)
    · skip
      simp only [zz_bi0] at h22
      have h22 : pdg (pb (M.1 (23, 0, 0)) n (p + j)) = false := h22
      have hD : pds (M.1 (23, 0, 0)) n 3 p 0 = (p + j, x3) := by
        rw [hs]; cases hf2 : 3 - j with
        | zero => rfl
        | succ f => rw [pds, if_neg (by simp [h22])]
      refine zz_b ok rfl trivial rfl (fun h70 => ?_) (fun h70 => ?_)
      · skip
        rw [hp', ni_ltn (by omega) (by omega)] at h70
        refine zz_cV ok rfl trivial rfl lk_Mo_135 ca_Mo_byteAt rfl rfl rfl rfl rfl (sp_Mo_byteAt (k := p + j) hG hl' hn hp' (by omega) ?_)
        rw [eT]
        refine zz_cS ok rfl trivial rfl lk_Mo_32 ca_Mo_in rfl rfl rfl (sp_Mo_in hG ?_)
        refine zz_b ok rfl trivial rfl (fun h88 => ?_) (fun h88 => ?_)
        · skip
          simp only [zz_bi0] at h88
          have h88 : pdg (pb (M.1 (23, 0, 0)) n (p + j)) = false := h88
          refine zz_b ok rfl ⟨ni_in ht (by decide), trivial⟩ rfl (fun h107 => ?_) (fun h107 => ?_)
          · skip
            exact absurd h107 (by decide)
          · skip
            skip
            refine zz_cV ok rfl trivial rfl lk_Mo_138 ca_Mo_skips rfl rfl rfl rfl rfl (sp_Mo_skips (p := p + j) hG (by rw [zz_gs, if_neg (by simp)]; exact hl') hn (by rw [zz_gs, if_neg (by simp)]; exact hp') (by omega) ?_)
            refine zz_z ok rfl trivial rfl rfl (by first | exact Or.inl rfl | exact Or.inr rfl | exact zz_bi01 _) ?_
            have hb : m_rnb M n = true := by
              unfold m_rnb; rw [epx, hD]; simp [h70, h88]
            have h0 : m_rn0 M n t = zz_set M' (25, 0, 0) t x3 := by
              unfold m_rn0; rw [epx, hD, eM]
            exact zz_pq h (by rw [hb]; rfl) (by rw [m_rdn, if_pos hb, h0, etx])
        · skip
          simp only [zz_bi0, Bool.not_eq_false] at h88
          have h88 : pdg (pb (M.1 (23, 0, 0)) n (p + j)) = true := h88
          refine zz_b ok rfl ⟨ni_in ht (by decide), trivial⟩ rfl (fun h107 => ?_) (fun h107 => ?_)
          · skip
            skip
            refine zz_z ok rfl trivial rfl rfl (by first | exact Or.inl rfl | exact Or.inr rfl | exact zz_bi01 _) ?_
            have hb : m_rnb M n = false := by
              unfold m_rnb; rw [epx, hD]; simp [h70, h88]
            have h0 : m_rn0 M n t = zz_set M' (25, 0, 0) t x3 := by
              unfold m_rn0; rw [epx, hD, eM]
            exact zz_pq h (by rw [hb]; rfl) (by rw [m_rdn, if_neg (by simp [hb]), h0, etx])
          · skip
            exact absurd rfl h107
      · skip
        rw [hp', ni_ltn (by omega) (by omega)] at h70
        refine zz_b ok rfl ⟨ni_in ht (by decide), trivial⟩ rfl (fun h107 => ?_) (fun h107 => ?_)
        · skip
          skip
          refine zz_z ok rfl trivial rfl rfl (by first | exact Or.inl rfl | exact Or.inr rfl | exact zz_bi01 _) ?_
          have hb : m_rnb M n = false := by
            unfold m_rnb; rw [epx, hD]; simp [h70]
          have h0 : m_rn0 M n t = zz_set M' (25, 0, 0) t x3 := by
            unfold m_rn0; rw [epx, hD, eM]
          exact zz_pq h (by rw [hb]; rfl) (by rw [m_rdn, if_neg (by simp [hb]), h0, etx])
        · skip
          exact absurd rfl h107
    · skip
      simp only [zz_bi0, Bool.not_eq_false] at h22
      have h22 : pdg (pb (M.1 (23, 0, 0)) n (p + j)) = true := h22
      have hpn2 : p + j < n := by
        rcases Nat.lt_or_ge (p + j) n with z | z
        · exact z
        · rw [pb, if_neg (by omega)] at h22; exact absurd h22 (by decide)
      refine zz_b ok rfl trivial rfl (fun h32 => ?_) (fun h32 => ?_)
      · skip
        rw [hp', ni_lit, nI_add, ni_ltn (by omega) (by omega)] at h32
        have hj3 : j < 3 := by omega
        refine zz_cV ok rfl trivial rfl lk_Mo_135 ca_Mo_byteAt rfl rfl rfl rfl rfl (sp_Mo_byteAt (k := p + j) hG hl' hn hp' (by omega) ?_)
        rw [eT]
        refine zz_g ok rfl trivial ?_
        refine zz_pm [3, 2, 1, 0] rfl ?_
        exact ih (j + 1) (by omega) (by omega) _ _ (by rw [hp', eM, zset_set, nI_1]; rfl) (by rw [hs, show 3 - j = (3 - (j + 1)) + 1 by omega, pds, if_pos h22]; rfl) (by omega)
      · skip
        rw [hp', ni_lit, nI_add, ni_ltn (by omega) (by omega)] at h32
        have hj3 : j = 3 := by omega
        have hD : pds (M.1 (23, 0, 0)) n 3 p 0 = (p + j, x3) := by
          rw [hs, hj3]; rfl
        refine zz_b ok rfl trivial rfl (fun h70 => ?_) (fun h70 => ?_)
        · skip
          rw [hp', ni_ltn (by omega) (by omega)] at h70
          refine zz_cV ok rfl trivial rfl lk_Mo_135 ca_Mo_byteAt rfl rfl rfl rfl rfl (sp_Mo_byteAt (k := p + j) hG hl' hn hp' (by omega) ?_)
          rw [eT]
          refine zz_cS ok rfl trivial rfl lk_Mo_32 ca_Mo_in rfl rfl rfl (sp_Mo_in hG ?_)
          refine zz_b ok rfl trivial rfl (fun h88 => ?_) (fun h88 => ?_)
          · skip
            simp only [zz_bi0] at h88
            have h88 : pdg (pb (M.1 (23, 0, 0)) n (p + j)) = false := h88
            refine zz_b ok rfl ⟨ni_in ht (by decide), trivial⟩ rfl (fun h107 => ?_) (fun h107 => ?_)
            · skip
              exact absurd h107 (by decide)
            · skip
              skip
              refine zz_cV ok rfl trivial rfl lk_Mo_138 ca_Mo_skips rfl rfl rfl rfl rfl (sp_Mo_skips (p := p + j) hG (by rw [zz_gs, if_neg (by simp)]; exact hl') hn (by rw [zz_gs, if_neg (by simp)]; exact hp') (by omega) ?_)
              refine zz_z ok rfl trivial rfl rfl (by first | exact Or.inl rfl | exact Or.inr rfl | exact zz_bi01 _) ?_
              have hb : m_rnb M n = true := by
                unfold m_rnb; rw [epx, hD]; simp [h70, h88]
              have h0 : m_rn0 M n t = zz_set M' (25, 0, 0) t x3 := by
                unfold m_rn0; rw [epx, hD, eM]
              exact zz_pq h (by rw [hb]; rfl) (by rw [m_rdn, if_pos hb, h0, etx])
          · skip
            simp only [zz_bi0, Bool.not_eq_false] at h88
            have h88 : pdg (pb (M.1 (23, 0, 0)) n (p + j)) = true := h88
            refine zz_b ok rfl ⟨ni_in ht (by decide), trivial⟩ rfl (fun h107 => ?_) (fun h107 => ?_)
            · skip
              skip
              refine zz_z ok rfl trivial rfl rfl (by first | exact Or.inl rfl | exact Or.inr rfl | exact zz_bi01 _) ?_
              have hb : m_rnb M n = false := by
                unfold m_rnb; rw [epx, hD]; simp [h70, h88]
              have h0 : m_rn0 M n t = zz_set M' (25, 0, 0) t x3 := by
                unfold m_rn0; rw [epx, hD, eM]
              exact zz_pq h (by rw [hb]; rfl) (by rw [m_rdn, if_neg (by simp [hb]), h0, etx])
            · skip
              exact absurd rfl h107
        · skip
          rw [hp', ni_ltn (by omega) (by omega)] at h70
          refine zz_b ok rfl ⟨ni_in ht (by decide), trivial⟩ rfl (fun h107 => ?_) (fun h107 => ?_)
          · skip
            skip
            refine zz_z ok rfl trivial rfl rfl (by first | exact Or.inl rfl | exact Or.inr rfl | exact zz_bi01 _) ?_
            have hb : m_rnb M n = false := by
              unfold m_rnb; rw [epx, hD]; simp [h70]
            have h0 : m_rn0 M n t = zz_set M' (25, 0, 0) t x3 := by
              unfold m_rn0; rw [epx, hD, eM]
            exact zz_pq h (by rw [hb]; rfl) (by rw [m_rdn, if_neg (by simp [hb]), h0, etx])
          · skip
            exact absurd rfl h107
  refine zz_g ok rfl trivial ?_
  refine zz_pm [3, 2, 1, 0] rfl ?_
  rw [hp]
  exact lp7 4 0 (by omega) (by omega) _ _ (zset_self hp).symm rfl hpn
def mps (M : zM) (T : Nat → Int32) (n c : Nat) : Prop := M.1 (23, 0, 0) = T ∧ M.1 (6, 0, 0) 5 = nI n ∧ M.1 (6, 0, 0) 9 = nI c ∧ M.1 (6, 0, 0) 10 = nI (mpos M) ∧ mpos M ≤ n
theorem mps_p {M : zM} {T : Nat → Int32} {n c p : Nat} (hn : n ≤ 100) (hp : p ≤ n) (h : mps M T n c) : mps (zz_set M (6, 0, 0) 10 (nI p)) T n c := by
  refine ⟨?_, ?_, ?_, ?_, ?_⟩
  · rw [← h.1]; funext i; rw [zz_gs, if_neg (by simp)]
  · rw [zz_gs, if_neg (by simp)]; exact h.2.1
  · rw [zz_gs, if_neg (by simp)]; exact h.2.2.1
  · unfold mpos; rw [zz_gs, if_pos ⟨rfl, rfl⟩, zz_ixn (by omega)]
  · unfold mpos; rw [zz_gs, if_pos ⟨rfl, rfl⟩, zz_ixn (by omega)]; exact hp
theorem mpos_p {M : zM} {p : Nat} (hp : p ≤ 1000) : mpos (zz_set M (6, 0, 0) 10 (nI p)) = p := by
  unfold mpos; rw [zz_gs, if_pos ⟨rfl, rfl⟩, zz_ixn (by omega)]
theorem mps_c {M : zM} {T : Nat → Int32} {n c t : Nat} {v : Int32} (h : mps M T n c) : mps (zz_set M (25, 0, 0) t v) T n c := by
  refine ⟨?_, ?_, ?_, ?_, ?_⟩
  · rw [← h.1]; funext i; rw [zz_gs, if_neg (by simp)]
  · rw [zz_gs, if_neg (by simp)]; exact h.2.1
  · rw [zz_gs, if_neg (by simp)]; exact h.2.2.1
  · unfold mpos; rw [zz_gs, if_neg (by simp)]; exact h.2.2.2.1
  · unfold mpos; rw [zz_gs, if_neg (by simp)]; exact h.2.2.2.2
theorem mpos_c {M : zM} {t : Nat} {v : Int32} : mpos (zz_set M (25, 0, 0) t v) = mpos M := by
  unfold mpos; rw [zz_gs, if_neg (by simp)]
theorem mps_skp {M : zM} {T : Nat → Int32} {n c : Nat} (hn : n ≤ 100) (h : mps M T n c) : mps (m_skp M n) T n c := by
  have hi := psk_in T n (n - mpos M) (mpos M) h.2.2.2.2
  unfold m_skp; rw [h.1]; exact mps_p hn hi.2 h
theorem mpos_skp {M : zM} {T : Nat → Int32} {n c : Nat} (hn : n ≤ 100) (h : mps M T n c) : mpos M ≤ mpos (m_skp M n) := by
  have hi := psk_in T n (n - mpos M) (mpos M) h.2.2.2.2
  unfold m_skp; rw [h.1, mpos_p (by omega)]; exact hi.1
theorem mps_rn0 {M : zM} {T : Nat → Int32} {n c t : Nat} (hn : n ≤ 100) (h : mps M T n c) : mps (m_rn0 M n t) T n c := by
  have hi := pds_in T n 3 (mpos M) 0 h.2.2.2.2
  unfold m_rn0; rw [h.1]; exact mps_c (mps_p hn hi.2 h)
theorem mps_rdn {M : zM} {T : Nat → Int32} {n c t : Nat} (hn : n ≤ 100) (h : mps M T n c) : mps (m_rdn M n t) T n c := by
  unfold m_rdn; split
  · exact mps_skp hn (mps_rn0 hn h)
  · exact mps_rn0 hn h
theorem mpos_rdn {M : zM} {T : Nat → Int32} {n c t : Nat} (hn : n ≤ 100) (h : mps M T n c) (hb : m_rnb M n = true) : mpos M < mpos (m_rdn M n t) := by
  have hi := pds_in T n 3 (mpos M) 0 h.2.2.2.2
  unfold m_rdn; rw [if_pos hb]
  refine Nat.lt_of_lt_of_le ?_ (mpos_skp hn (mps_rn0 hn h))
  unfold m_rn0; rw [mpos_c, h.1, mpos_p (by omega)]
  unfold m_rnb at hb; rw [h.1] at hb
  simp at hb; exact hb.1
theorem mps_rdk {T : Nat → Int32} {n c : Nat} (hn : n ≤ 100) : ∀ (f k : Nat) (M : zM), mps M T n c → mps (m_rdk n c f k M).2 T n c ∧ ((m_rdk n c f k M).1 = true → mpos M + f ≤ mpos (m_rdk n c f k M).2)
  | 0, k, M, h => ⟨h, fun _ => Nat.le_refl _⟩
  | f + 1, k, M, h => by
    unfold m_rdk; split
    · next hb =>
      have h1 := mps_rdk hn f (k + 1) (m_rdn M n (4 * c + k)) (mps_rdn hn h)
      have h2 := mpos_rdn (t := 4 * c + k) hn h hb
      exact ⟨h1.1, fun z => by have := h1.2 z; omega⟩
    · exact ⟨mps_rdn hn h, fun z => by cases z⟩
theorem pno_in (x : Int32) : pno x = -1000 ∨ ∃ N, 1 ≤ N ∧ N ≤ 3 ∧ pno x = nI N := by
  unfold pno
  split
  · exact Or.inr ⟨3, by omega, by omega, rfl⟩
  · split
    · exact Or.inr ⟨2, by omega, by omega, rfl⟩
    · split
      · exact Or.inr ⟨1, by omega, by omega, rfl⟩
      · exact Or.inl rfl
theorem pno_lt {T : Nat → Int32} {n p : Nat} (h : ¬ pno (pb T n p) = -1000) : p < n := by
  rcases Nat.lt_or_ge p n with z | z
  · exact z
  · rw [pb, if_neg (by omega)] at h; exact absurd (by decide) h
theorem mps_rc0 {M : zM} {T : Nat → Int32} {n c : Nat} (hn : n ≤ 100) (h : mps M T n c) (hp : mpos M < n) : mps (m_rc0 M n) T n c ∧ mpos M + 1 ≤ mpos (m_rc0 M n) := by
  have h1 : mps (zz_set (zz_set M (25, 0, 0) (4 * mcal M) (pb (M.1 (23, 0, 0)) n (mpos M))) (6, 0, 0) 10 (nI (mpos M + 1))) T n c := mps_p hn hp (mps_c h)
  refine ⟨mps_skp hn h1, Nat.le_trans ?_ (mpos_skp hn h1)⟩
  rw [mpos_p (by omega)]; exact Nat.le_refl _
theorem mps_n {M : zM} {T : Nat → Int32} {n c c2 : Nat} (h : mps M T n c) : mps (zz_set M (6, 0, 0) 9 (nI c2)) T n c2 := by
  refine ⟨?_, ?_, ?_, ?_, ?_⟩
  · rw [← h.1]; funext i; rw [zz_gs, if_neg (by simp)]
  · rw [zz_gs, if_neg (by simp)]; exact h.2.1
  · rw [zz_gs, if_pos ⟨rfl, rfl⟩]
  · unfold mpos; rw [zz_gs, if_neg (by simp)]; exact h.2.2.2.1
  · unfold mpos; rw [zz_gs, if_neg (by simp)]; exact h.2.2.2.2
theorem mps_rdc {M : zM} {T : Nat → Int32} {n c : Nat} (hn : n ≤ 100) (hc : c ≤ 1000) (h : mps M T n c) : (∃ c', mps (m_rdc M n).2 T n c') ∧ ((m_rdc M n).1 = true → mps (m_rdc M n).2 T n (c + 1) ∧ mpos M + 3 ≤ mpos (m_rdc M n).2) := by
  have hcx : mcal M = c := ni_ix h.2.2.1 (by omega)
  unfold m_rdc; split
  · exact ⟨⟨c, h⟩, fun z => by cases z⟩
  · next hno =>
    have hp := pno_lt hno
    have h0 := mps_rc0 hn h hp
    obtain ⟨N, hN1, hN3, eN⟩ := (pno_in _).resolve_left hno
    have h1 := mps_rdk (c := c) hn N 1 (m_rc0 M n) h0.1
    have eR : m_rcR M n = m_rdk n c N 1 (m_rc0 M n) := by
      unfold m_rcR; rw [eN, zz_ixn (by omega), hcx]
    rw [eR]
    split
    · exact ⟨⟨c, h1.1⟩, fun z => by cases z⟩
    · next hR =>
      have hR : (m_rdk n c N 1 (m_rc0 M n)).1 = true := by simpa using hR
      split
      · exact ⟨⟨c, h1.1⟩, fun z => by cases z⟩
      · next h59 =>
        have hq : mpos (m_rdk n c N 1 (m_rc0 M n)).2 < n := by
          rcases Nat.lt_or_ge (mpos (m_rdk n c N 1 (m_rc0 M n)).2) n with z | z
          · exact z
          · rw [pb, if_neg (by omega)] at h59; exact absurd (by decide) h59
        have h2 := mps_p (p := mpos (m_rdk n c N 1 (m_rc0 M n)).2 + 1) hn hq h1.1
        have h3 : mps (zz_set (m_skp (zz_set (m_rdk n c N 1 (m_rc0 M n)).2 (6, 0, 0) 10 (nI (mpos (m_rdk n c N 1 (m_rc0 M n)).2 + 1))) n) (6, 0, 0) 9 (nI (mcal M + 1))) T n (c + 1) := by
          rw [hcx]; exact mps_n (mps_skp hn h2)
        refine ⟨⟨c + 1, h3⟩, fun _ => ⟨h3, ?_⟩⟩
        have h4 := mpos_skp hn h2
        rw [mpos_p (by omega)] at h4
        have h5 := h1.2 hR
        have e9 : ∀ A : zM, mpos (zz_set A (6, 0, 0) 9 (nI (mcal M + 1))) = mpos A := fun A => by unfold mpos; rw [zz_gs, if_neg (by simp)]
        show mpos M + 3 ≤ mpos (zz_set _ (6, 0, 0) 9 (nI (mcal M + 1)))
        rw [e9]; omega
theorem sp_Mo_readsCall {G : zG} {post : Option zV → zM → Prop} {M : zM} {T : Nat → Int32} {n c : Nat} (hG : zz_go G) (hn : n ≤ 100) (hc : c ≤ 40) (hs : mps M T n c) (h : post (some (.inl (zz_bi (m_rdc M n).1))) (m_rdc M n).2) : zz_T G md_Mo_readsCall [.inr (.inr (6, 0, 0))] M post := by
  refine en_Mo_readsCall hG rfl (fun Z ok => ?_)
  have hcx : mcal M = c := ni_ix hs.2.2.1 (by omega)
  unfold m_rdc at h
  rw [hs.1] at h
  refine zz_cV ok rfl trivial rfl lk_Mo_135 ca_Mo_byteAt rfl rfl rfl rfl rfl (sp_Mo_byteAt hG hs.2.1 hn hs.2.2.2.1 (by have := hs.2.2.2.2; omega) ?_)
  rw [hs.1]
  refine zz_cS ok rfl trivial rfl lk_Mo_141 ca_Mo_numbersOf rfl rfl rfl (sp_Mo_numbersOf hG ?_)
  refine zz_b ok rfl trivial rfl (fun h18 => ?_) (fun h18 => ?_)
  · skip
    refine zz_z ok rfl trivial rfl rfl (by first | exact Or.inl rfl | exact Or.inr rfl | exact zz_bi01 _) ?_
    rw [if_pos h18] at h
    exact h
  · skip
    have hp := pno_lt h18
    obtain ⟨N, hN1, hN3, eN⟩ := (pno_in _).resolve_left h18
    rw [if_neg h18] at h
    have h0 : mps (zz_set (zz_set M (25, 0, 0) (zz_ix (4 * M.1 (6, 0, 0) 9)) (pb T n (mpos M))) (6, 0, 0) 10 ((zz_set M (25, 0, 0) (zz_ix (4 * M.1 (6, 0, 0) 9)) (pb T n (mpos M))).1 (6, 0, 0) 10 + 1)) T n c := by
      rw [zz_gs, if_neg (by simp), hs.2.2.2.1, nI_1]; exact mps_p hn hp (mps_c hs)
    refine zz_cV ok rfl ⟨(by rw [hs.2.2.1]; exact vi7 (by omega) (by decide)), trivial⟩ rfl lk_Mo_138 ca_Mo_skips rfl rfl rfl rfl rfl (sp_Mo_skips (p := mpos M + 1) hG h0.2.1 hn (by rw [zz_gs, if_pos ⟨rfl, rfl⟩, zz_gs, if_neg (by simp), hs.2.2.2.1, nI_1]) hp ?_)
    have lp51 : ∀ (f j : Nat), N - j < f → j ≤ N → ∀ (x3 : Int32) (M' : zM), x3 = nI (j + 1) → mps M' T n c → m_rcR M n = m_rdk n c (N - j) (j + 1) M' → zz_W G Z md_Mo_readsCall post 51 [(3, .inl x3), (2, .inl (nI N)), (0, .inr (.inr (6, 0, 0)))] [] M' := by
      intro f
      induction f with
      | zero => intro j hf; exact absurd hf (Nat.not_lt_zero _)
      | succ f ih => ?_
      intro j hf hj x3 M' e3 hs' hR
      subst e3
      refine zz_b ok rfl trivial rfl (fun h53 => ?_) (fun h53 => ?_)
      · skip
        rw [ni_ltn (by omega) (by omega)] at h53
        have hjN : j = N := by omega
        subst hjN
        rw [Nat.sub_self, m_rdk] at hR
        rw [hR] at h
        dsimp only at h
        rw [if_neg (by decide)] at h
        refine zz_cV ok rfl trivial rfl lk_Mo_135 ca_Mo_byteAt rfl rfl rfl rfl rfl (sp_Mo_byteAt hG hs'.2.1 hn hs'.2.2.2.1 (by have := hs'.2.2.2.2; omega) ?_)
        rw [hs'.1]
        refine zz_b ok rfl trivial rfl (fun h89 => ?_) (fun h89 => ?_)
        · skip
          rw [if_neg (fun z => z h89)] at h
          have hq : mpos M' < n := by
            rcases Nat.lt_or_ge (mpos M') n with z | z
            · exact z
            · rw [pb, if_neg (by omega)] at h89; exact absurd h89 (by decide)
          refine zz_cV ok rfl trivial rfl lk_Mo_138 ca_Mo_skips rfl rfl rfl rfl rfl (sp_Mo_skips (p := mpos M' + 1) hG (by rw [zz_gs, if_neg (by simp)]; exact hs'.2.1) hn (by rw [zz_gs, if_pos ⟨rfl, rfl⟩, hs'.2.2.2.1, nI_1]) hq ?_)
          refine zz_z ok rfl trivial rfl rfl (by first | exact Or.inl rfl | exact Or.inr rfl | exact zz_bi01 _) ?_
          exact zz_pq h rfl (by
            have h9 : ∀ A : zM, (m_skp A n).1 (6, 0, 0) 9 = A.1 (6, 0, 0) 9 := fun A => by unfold m_skp; rw [zz_gs, if_neg (by simp)]
            rw [h9, zz_gs, if_neg (by simp), hs'.2.2.1, hs'.2.2.2.1, hcx, nI_1, nI_1])
        · skip
          rw [if_pos h89] at h
          refine zz_z ok rfl trivial rfl rfl (by first | exact Or.inl rfl | exact Or.inr rfl | exact zz_bi01 _) ?_
          exact h
      · skip
        rw [ni_ltn (by omega) (by omega)] at h53
        refine zz_cV ok rfl trivial rfl lk_Mo_147 ca_Mo_readsNumber rfl rfl rfl rfl rfl (sp_Mo_readsNumber (t := 4 * c + (j + 1)) hG hs'.2.1 hn hs'.2.2.2.1 hs'.2.2.2.2 (by rw [hs'.2.2.1, ni_lit, ni_mul, nI_add]) (by omega) ?_)
        refine zz_b ok rfl trivial rfl (fun h68 => ?_) (fun h68 => ?_)
        · skip
          simp only [zz_bi0, Bool.not_eq_false] at h68
          refine zz_z ok rfl trivial rfl rfl (by first | exact Or.inl rfl | exact Or.inr rfl | exact zz_bi01 _) ?_
          have hR2 : m_rcR M n = (false, m_rdn M' n (4 * c + (j + 1))) := by
            rw [hR, show N - j = (N - (j + 1)) + 1 by omega, m_rdk, if_neg (by simp [h68])]
          rw [hR2] at h
          dsimp only at h
          rw [if_pos rfl] at h
          exact zz_pq h rfl rfl
        · skip
          simp only [zz_bi0, Bool.not_eq_false] at h68
          refine zz_g ok rfl trivial ?_
          refine zz_pm [3, 2, 0] rfl ?_
          exact ih (j + 1) (by omega) (by omega) _ _ (nI_1 (j + 1)) (mps_rdn hn hs') (by rw [hR, show N - j = (N - (j + 1)) + 1 by omega, m_rdk, if_pos h68])
    refine zz_g ok rfl trivial ?_
    refine zz_pm [3, 2, 0] rfl ?_
    rw [eN]
    exact lp51 4 0 (by omega) (by omega) _ _ rfl (mps_skp hn h0) (by
      unfold m_rcR; rw [hs.1, eN, zz_ixn (by omega), hcx, Nat.sub_zero]
      congr 1
      unfold m_rc0; rw [hs.1, hcx]
      congr 1
      simp only [zz_gs]; rw [hs.2.2.1, ni_lit, ni_mul, zz_ixn (by omega), if_neg (by simp), hs.2.2.2.1, nI_1])
