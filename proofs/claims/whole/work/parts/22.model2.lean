theorem zz_rsx {G : zG} {Z : zC} {md : zD} {post : Option zV → zM → Prop} (ok : zz_ok G Z md) (sp : List Nat) : ∀ (f pc : Nat) (cs : List zE) (first : Bool) (ls : zL) (st : List zV) (M : zM) (P : Prop) (pc' : Nat) (ls' : zL) (st' : List zV) (M' : zM), (∀ e ∈ cs, e ∈ zz_code md) → zz_run (zz_code md) sp f pc cs first ls st M = some (P, pc', ls', st', M') → P → zz_W G Z md post pc' ls' st' M' → zz_W G Z md post pc ls st M := by
  intro f
  induction f with
  | zero => intro pc cs first ls st M P pc' ls' st' M' _ h; cases cs <;> cases h
  | succ f ih =>
    intro pc cs first ls st M P pc' ls' st' M' hcs h hP k
    cases cs with
    | nil => cases h
    | cons e t =>
      obtain ⟨pc1, op, i, x, y, npc⟩ := e
      unfold zz_run at h
      split at h
      · cases h
      · next hpc =>
        have hpc := Nat.eq_of_beq_eq_true hpc
        subst hpc
        have hin : (pc1, op, i, x, y, npc) ∈ zz_code md := hcs _ List.mem_cons_self
        have hct : ∀ e ∈ t, e ∈ zz_code md := fun e he => hcs e (List.mem_cons_of_mem _ he)
        split at h
        · cases h; exact k
        · split at h
          · next hop =>
            have hop := Nat.eq_of_beq_eq_true hop
            subst hop
            exact zz_goto ok hin (ih _ _ _ _ _ _ _ _ _ _ _ (zz_suf_in _ _) h hP k)
          · split at h
            · cases h; exact k
            · next hs =>
              exact zz_sd ok hin hs (fun p hp => by cases hp) (ih _ _ _ _ _ _ _ _ _ _ _ hct h hP k)
            · next hs =>
              split at h
              · next hr =>
                cases h
                exact zz_sd ok hin hs (fun p hp => by cases hp; exact hP.1) (ih _ _ _ _ _ _ _ _ _ _ _ hct hr hP.2 k)
              · cases h
theorem v1436 : vp_in 1436 1735 := vi0 (c := 1436) (N := 1735) rfl (by decide)
theorem v1437 : vp_in 1437 1735 := vi0 (c := 1437) (N := 1735) rfl (by decide)
theorem v1438 : vp_in 1438 1735 := vi0 (c := 1438) (N := 1735) rfl (by decide)
theorem v1647 : vp_in 1647 1735 := vi0 (c := 1647) (N := 1735) rfl (by decide)
theorem v1728 : vp_in 1728 1735 := vi0 (c := 1728) (N := 1735) rfl (by decide)
theorem v1734 : vp_in 1734 1735 := vi0 (c := 1734) (N := 1735) rfl (by decide)
theorem v0 : vp_in 0 1735 := ni_in (n := 0) (by decide) (by decide)
theorem zz_gx {G : zG} {Z : zC} {md : zD} {post : Option zV → zM → Prop} (ok : zz_ok G Z md) (sp : List Nat) {pc pc' : Nat} {ls ls' : zL} {st st' : List zV} {M M' : zM} {P : Prop} (h : zz_run (zz_code md) sp 400 pc (zz_suf (zz_code md) pc) false ls st M = some (P, pc', ls', st', M')) (hP : P) (k : zz_W G Z md post pc' ls' st' M') : zz_W G Z md post pc ls st M :=
  zz_rsx ok sp _ _ _ _ _ _ _ _ _ _ _ _ (zz_suf_in _ _) h hP k
theorem z0 : zz_ix 0 = 0 := rfl
theorem z1436 : zz_ix 1436 = 1436 := rfl
theorem z1437 : zz_ix 1437 = 1437 := rfl
theorem z1438 : zz_ix 1438 = 1438 := rfl
theorem z1647 : zz_ix 1647 = 1647 := rfl
theorem z1728 : zz_ix 1728 = 1728 := rfl
theorem z1734 : zz_ix 1734 = 1734 := rfl
theorem mi2p {a b : Nat} (ha : a < 1000) (hb : b < 100000) (c d e : Nat) (hc : c ≤ 100000) (hd : d ≤ 1000) (he : e ≤ 1000) : zz_ix (OfNat.ofNat c + OfNat.ofNat d * nI a + nI b + OfNat.ofNat e) = OfNat.ofNat c + OfNat.ofNat d * a + b + OfNat.ofNat e := by
  have h1 : d * a ≤ 1000 * 1000 := Nat.mul_le_mul hd (by omega)
  rw [ni_lit, ni_lit, ni_lit, ni_mul, nI_add, nI_add, nI_add]; exact zz_ixn (n := c + d * a + b + e) (by omega)
theorem mi1p {b : Nat} (hb : b < 100000) (c e : Nat) (hc : c ≤ 100000) (he : e ≤ 1000) : zz_ix (OfNat.ofNat c + nI b + OfNat.ofNat e) = OfNat.ofNat c + b + OfNat.ofNat e := by
  rw [ni_lit, ni_lit, nI_add, nI_add]; exact zz_ixn (n := c + b + e) (by omega)
theorem mi4 {a : Nat} (ha : a < 1000) (c d : Nat) (hc : c ≤ 100000) (hd : d ≤ 1000) : zz_ix (OfNat.ofNat c + OfNat.ofNat d * nI a) = OfNat.ofNat c + OfNat.ofNat d * a := by
  have h1 : d * a ≤ 1000 * 1000 := Nat.mul_le_mul hd (by omega)
  rw [ni_lit, ni_lit, ni_mul, nI_add]; exact zz_ixn (n := c + d * a) (by omega)
theorem mi4p {a : Nat} (ha : a < 1000) (c d e : Nat) (hc : c ≤ 100000) (hd : d ≤ 1000) (he : e ≤ 1000) : zz_ix (OfNat.ofNat c + OfNat.ofNat d * nI a + OfNat.ofNat e) = OfNat.ofNat c + OfNat.ofNat d * a + OfNat.ofNat e := by
  have h1 : d * a ≤ 1000 * 1000 := Nat.mul_le_mul hd (by omega)
  rw [ni_lit, ni_lit, ni_lit, ni_mul, nI_add, nI_add]; exact zz_ixn (n := c + d * a + e) (by omega)
theorem vi2p {c d e a b N : Nat} (h : OfNat.ofNat c + OfNat.ofNat d * a + b + OfNat.ofNat e < N) (hN : N ≤ 100000) : vp_in (OfNat.ofNat c + OfNat.ofNat d * nI a + nI b + OfNat.ofNat e) N := by
  rw [ni_lit, ni_lit, ni_lit, ni_mul, nI_add, nI_add, nI_add]; exact ni_in h hN
theorem vi1p {c e b N : Nat} (h : OfNat.ofNat c + b + OfNat.ofNat e < N) (hN : N ≤ 100000) : vp_in (OfNat.ofNat c + nI b + OfNat.ofNat e) N := by
  rw [ni_lit, ni_lit, nI_add, nI_add]; exact ni_in h hN
theorem vi4 {c d a N : Nat} (h : OfNat.ofNat c + OfNat.ofNat d * a < N) (hN : N ≤ 100000) : vp_in (OfNat.ofNat c + OfNat.ofNat d * nI a) N := by
  rw [ni_lit, ni_lit, ni_mul, nI_add]; exact ni_in h hN
theorem vi4p {c d a e N : Nat} (h : OfNat.ofNat c + OfNat.ofNat d * a + OfNat.ofNat e < N) (hN : N ≤ 100000) : vp_in (OfNat.ofNat c + OfNat.ofNat d * nI a + OfNat.ofNat e) N := by
  rw [ni_lit, ni_lit, ni_lit, ni_mul, nI_add, nI_add]; exact ni_in h hN
theorem cpy0 (M : zM) (a r : zR) (sp dp : Nat) : zz_cpy M a r sp dp 0 = M := by
  refine Prod.ext (funext fun x => funext fun j => ?_) rfl
  rw [zz_gc]
  by_cases h : x = r
  · rw [if_pos h, h]; unfold va_cpy; rw [if_neg (by omega)]
  · rw [if_neg h]
theorem cpy_step {M : zM} {a r : zR} {sp dp j : Nat} (h : a = r → ¬ (dp ≤ sp + j ∧ sp + j < dp + j)) : zz_set (zz_cpy M a r sp dp j) r (dp + j) ((zz_cpy M a r sp dp j).1 a (sp + j)) = zz_cpy M a r sp dp (j + 1) := by
  have e : (zz_cpy M a r sp dp j).1 a (sp + j) = M.1 a (sp + j) := by
    rw [zz_gc]
    by_cases q : a = r
    · rw [if_pos q]; unfold va_cpy; rw [if_neg (h q), q]
    · rw [if_neg q]
  rw [e]
  refine Prod.ext (funext fun x => funext fun i => ?_) rfl
  rw [zz_gs, zz_gc, zz_gc]
  by_cases q : x = r
  · rw [if_pos q, if_pos q]
    unfold va_cpy
    by_cases p : i = dp + j
    · rw [if_pos ⟨q, p⟩, if_pos (by omega), p, show dp + j - dp = j by omega]
    · rw [if_neg (fun z => p z.2)]
      by_cases w : dp ≤ i ∧ i < dp + j
      · rw [if_pos w, if_pos (by omega)]
      · rw [if_neg w, if_neg (by omega)]
  · rw [if_neg (fun z => q z.1), if_neg q, if_neg q]
theorem cpy_set {M : zM} {r : zR} {sp dp n i : Nat} {v : Int32} (h1 : ¬ (dp ≤ i ∧ i < dp + n)) (h2 : ¬ (sp ≤ i ∧ i < sp + n)) : zz_set (zz_cpy M r r sp dp n) r i v = zz_cpy (zz_set M r i v) r r sp dp n := by
  refine Prod.ext (funext fun x => funext fun j => ?_) rfl
  rw [zz_gs, zz_gc, zz_gc]
  by_cases q : x = r
  · rw [if_pos q, if_pos q]
    unfold va_cpy
    by_cases p : j = i
    · rw [if_pos ⟨q, p⟩, if_neg (by omega), zz_gs, if_pos ⟨rfl, p⟩]
    · rw [if_neg (fun z => p z.2)]
      by_cases w : dp ≤ j ∧ j < dp + n
      · rw [if_pos w, if_pos w, zz_gs, if_neg (by rintro ⟨-, z⟩; omega)]
      · rw [if_neg w, if_neg w, zz_gs, if_neg (fun z => p z.2)]
  · rw [if_neg (fun z => q z.1), if_neg q, if_neg q, zz_gs, if_neg (fun z => q z.1)]
def m_setClock (M : zM) (a b : Int32) : Int32 × zM := if nsv a ∨ b < -M.1 (6, 0, 0) 3 ∨ M.1 (6, 0, 0) 3 < b then (-1001, M) else (q M (1 + zz_ix a), qs M (1 + zz_ix a) b)
def m_clock (M : zM) (a w : Int32) : Int32 := if nsv a ∨ w < 0 ∨ 2 < w then -1001 else if w = 0 then m_rd M (zz_ix a) else if w = 1 then m_ea M (zz_ix a) else m_la M (zz_ix a)
def m_gv (M : zM) (s : Nat) : Nat → Int32
  | 0 => -1000
  | k + 1 => if q M (276 + 40 * s + k) < m_ea M s ∧ (m_gv M s k = -1000 ∨ q M (276 + 40 * s + k) < q M (276 + 40 * s + zz_ix (m_gv M s k))) then nI k else m_gv M s k
theorem m_gv_in (M : zM) (s : Nat) : ∀ k, m_gv M s k = -1000 ∨ ∃ i, i < k ∧ m_gv M s k = nI i
  | 0 => Or.inl rfl
  | k + 1 => by
    unfold m_gv
    split
    · exact Or.inr ⟨k, by omega, rfl⟩
    · rcases m_gv_in M s k with h | ⟨i, h1, h2⟩
      · exact Or.inl h
      · exact Or.inr ⟨i, by omega, h2⟩
def m_g0 (M : zM) : zM := if q M 1437 = 50 then qs (zz_cpy M (20, 0, 0) (20, 0, 0) 1443 1439 196) 1437 49 else M
def m_g1 (A : zM) (s k n d : Nat) : zM := qs (qs (qs (qs (qs (qs (qs A (1439 + 4 * n) (nI s)) (1439 + 4 * n + 1) (q A (76 + 40 * s + k))) (1439 + 4 * n + 2) (q A (276 + 40 * s + k))) (1439 + 4 * n + 3) (q A 0)) 1437 (nI (n + 1))) 1438 (q A 1438 + 1)) (71 + s) (nI (d - 1))
def m_g2 (B : zM) (s k i : Nat) : zM := zz_cpy (zz_cpy B (20, 0, 0) (20, 0, 0) (77 + 40 * s + k) (76 + 40 * s + k) i) (20, 0, 0) (20, 0, 0) (277 + 40 * s + k) (276 + 40 * s + k) i
def m_gi (M : zM) (s k : Nat) : zM := m_g2 (m_g1 (m_g0 M) s k (mn (m_g0 M) 1437) (mn M (71 + s))) s k (mn M (71 + s) - 1 - k)
theorem m_g0_q {M : zM} {i : Nat} (h : i < 1437 ∨ i = 1438 ∨ 1635 ≤ i) : (m_g0 M).1 (20, 0, 0) i = M.1 (20, 0, 0) i := by
  unfold m_g0; split
  · rw [qg, if_neg (by omega), qgc, if_neg (by omega)]
  · rfl
theorem m_g0_k {M : zM} (hm : mw M) : (m_g0 M).1 (20, 0, 0) 1437 = nI (mn (m_g0 M) 1437) ∧ mn (m_g0 M) 1437 ≤ 49 := by
  have hk := mw_kept hm
  unfold mn q m_g0; split
  · next h => rw [qg, if_pos rfl]; exact ⟨rfl, by decide⟩
  · next h => 
    refine ⟨hk.1, ?_⟩
    have : ¬ mn M 1437 = 50 := fun e => h (by unfold q; rw [hk.1, e]; rfl)
    have h2 := hk.2
    unfold mn q at this h2; omega
theorem m_g0_mw {M : zM} (hm : mw M) : mw (m_g0 M) := by
  refine mw_of hm (fun i hi => ?_)
  by_cases e : i = 1437
  · subst e; exact Or.inr ⟨_, Nat.le_trans (m_g0_k hm).2 (by decide), (m_g0_k hm).1⟩
  · exact Or.inl (m_g0_q (by unfold mwi at hi; omega))
theorem m_g2_step {B : zM} {s k i : Nat} (hs : s < 5) (hi : i + k < 40) :
    zz_set (zz_set (m_g2 B s k i) (20, 0, 0) (76 + 40 * s + (k + i)) ((m_g2 B s k i).1 (20, 0, 0) (76 + 40 * s + (k + i) + 1))) (20, 0, 0) (276 + 40 * s + (k + i)) ((zz_set (m_g2 B s k i) (20, 0, 0) (76 + 40 * s + (k + i)) ((m_g2 B s k i).1 (20, 0, 0) (76 + 40 * s + (k + i) + 1))).1 (20, 0, 0) (276 + 40 * s + (k + i) + 1)) = m_g2 B s k (i + 1) := by
  have e1 : zz_set (m_g2 B s k i) (20, 0, 0) (76 + 40 * s + (k + i)) ((m_g2 B s k i).1 (20, 0, 0) (76 + 40 * s + (k + i) + 1)) = zz_cpy (zz_cpy B (20, 0, 0) (20, 0, 0) (77 + 40 * s + k) (76 + 40 * s + k) (i + 1)) (20, 0, 0) (20, 0, 0) (277 + 40 * s + k) (276 + 40 * s + k) i := by
    have ev : (m_g2 B s k i).1 (20, 0, 0) (76 + 40 * s + (k + i) + 1) = (zz_cpy B (20, 0, 0) (20, 0, 0) (77 + 40 * s + k) (76 + 40 * s + k) i).1 (20, 0, 0) (77 + 40 * s + k + i) := by
      unfold m_g2; rw [qgc, if_neg (by omega), show 76 + 40 * s + (k + i) + 1 = 77 + 40 * s + k + i by omega]
    rw [ev]
    unfold m_g2
    rw [cpy_set (by omega) (by omega), show 76 + 40 * s + (k + i) = 76 + 40 * s + k + i by omega, cpy_step (by intro _; omega)]
  rw [e1, show 276 + 40 * s + (k + i) = 276 + 40 * s + k + i by omega, show 276 + 40 * s + k + i + 1 = 277 + 40 * s + k + i by omega, cpy_step (by intro _; omega)]
  rfl
theorem m_g2_0 (B : zM) (s k : Nat) : m_g2 B s k 0 = B := by unfold m_g2; rw [cpy0, cpy0]
theorem m_g2_q {B : zM} {s k i j : Nat} (hs : s < 5) (hi : i + k ≤ 40) (h : j < 76 ∨ 476 ≤ j) : (m_g2 B s k i).1 (20, 0, 0) j = B.1 (20, 0, 0) j := by
  unfold m_g2; rw [qgc, if_neg (by omega), qgc, if_neg (by omega)]
theorem m_g1_q {A : zM} {s k n d j : Nat} (hs : s < 5) (h : j < 1437) (hj : ¬ j = 71 + s) : (m_g1 A s k n d).1 (20, 0, 0) j = A.1 (20, 0, 0) j := by
  unfold m_g1
  rw [qg, if_neg hj, qg, if_neg (by omega), qg, if_neg (by omega), qg, if_neg (by omega), qg, if_neg (by omega), qg, if_neg (by omega), qg, if_neg (by omega)]
theorem m_g1_d {A : zM} {s k n d : Nat} : (m_g1 A s k n d).1 (20, 0, 0) (71 + s) = nI (d - 1) := by
  unfold m_g1
  rw [qg, if_pos rfl]
theorem m_gi_due {M : zM} {s k : Nat} (hs : s < 5) (hm : mw M) (hk : k < mn M (71 + s)) : mn (m_gi M s k) (71 + s) = mn M (71 + s) - 1 := by
  have hd := mw_due hm hs
  unfold mn q m_gi
  rw [m_g2_q hs (by omega) (by omega), m_g1_d, zz_ixn]
  · rfl
  · omega
theorem m_g1_mw {A : zM} {s k n d : Nat} (hs : s < 5) (hn : n ≤ 49) (hd : d ≤ 40) (hm : mw A) : mw (m_g1 A s k n d) := by
  unfold m_g1
  refine mw_sz ?_ (mw_set ?_ (mw_sz ?_ (mw_set ?_ (mw_set ?_ (mw_set ?_ (mw_set ?_ hm))))))
  · unfold mwb; rw [if_neg (by omega), if_neg (by omega)]; omega
  · unfold mwi; omega
  · show n + 1 ≤ 50; omega
  · unfold mwi; omega
  · unfold mwi; omega
  · unfold mwi; omega
  · unfold mwi; omega
theorem m_gi_mw {M : zM} {s k : Nat} (hs : s < 5) (hm : mw M) (hk : k < mn M (71 + s)) : mw (m_gi M s k) := by
  have hd := mw_due hm hs
  unfold m_gi m_g2
  exact mw_cpy (by unfold mwi; omega) (mw_cpy (by unfold mwi; omega) (m_g1_mw hs (m_g0_k hm).2 hd.2 (m_g0_mw hm)))
def m_gs (s : Nat) : Nat → zM → zM
  | 0, M => M
  | f + 1, M => if m_gv M s (mn M (71 + s)) = -1000 then M else m_gs s f (m_gi M s (zz_ix (m_gv M s (mn M (71 + s)))))
def m_tk1 (s : Nat) (M : zM) : zM := if m_ru M s = true then m_gs s (mn M (71 + s)) M else M
def m_tk (M : zM) : zM := zz_it m_tk1 5 (qs M 0 (q M 0 + 1))
def m_tks (M : zM) : Nat → zM
  | 0 => M
  | k + 1 => m_tk (m_tks M k)
def m_pass (M : zM) (t : Int32) : Int32 × zM := if t < 1 ∨ 200 < t then (-1001, M) else if 100000 < q M 0 + t then (-1003, M) else (q (m_tks M (zz_ix t)) 0, m_tks M (zz_ix t))
theorem m_gs_mw {s : Nat} (hs : s < 5) : ∀ (f : Nat) (M : zM), mw M → mw (m_gs s f M)
  | 0, _, h => h
  | f + 1, M, h => by
    unfold m_gs; split
    · exact h
    · next hv =>
      rcases m_gv_in M s (mn M (71 + s)) with e | ⟨i, hi, e⟩
      · exact absurd e hv
      · rw [e, zz_ixn (by have := (mw_due h hs).2; omega)]
        exact m_gs_mw hs f _ (m_gi_mw hs h hi)
theorem m_tk1_mw {s : Nat} {M : zM} (hs : s < 5) (h : mw M) : mw (m_tk1 s M) := by
  unfold m_tk1; split
  · exact m_gs_mw hs _ _ h
  · exact h
theorem m_it_mw {f : Nat → zM → zM} {N : Nat} (hf : ∀ k M, k < N → mw M → mw (f k M)) : ∀ (k : Nat) (M : zM), k ≤ N → mw M → mw (zz_it f k M)
  | 0, _, _, h => h
  | k + 1, M, hk, h => hf k _ hk (m_it_mw hf k M (by omega) h)
theorem m_tk_mw {M : zM} (h : mw M) : mw (m_tk M) := by
  unfold m_tk
  exact m_it_mw (N := 5) (fun k M hk h => m_tk1_mw hk h) 5 _ (Nat.le_refl 5) (mw_set (by unfold mwi; omega) h)
def m_setState (M : zM) (a x : Int32) : Int32 × zM := if nsv a ∨ x < 0 ∨ 2 < x then (-1001, M) else (q M (6 + zz_ix a), if x = 2 then qs (qs (qs M (6 + zz_ix a) x) (61 + zz_ix a) 0) (71 + zz_ix a) 0 else qs M (6 + zz_ix a) x)
def m_setLink (M : zM) (a b u : Int32) : Int32 × zM := if nsv a ∨ nsv b ∨ a = b then (-1001, M) else (q M (11 + 5 * zz_ix a + zz_ix b), qs (qs M (11 + 5 * zz_ix a + zz_ix b) (if u = 0 then 0 else 1)) (11 + 5 * zz_ix b + zz_ix a) (if u = 0 then 0 else 1))
theorem sp_Mo_setClock {G : zG} {post : Option zV → zM → Prop} {M : zM} {a b : Int32} (hG : zz_go G) (h : post (some (.inl (m_setClock M a b).1)) (m_setClock M a b).2) : zz_T G md_Mo_setClock [.inr (.inr (6, 0, 0)), .inl a, .inl b] M post := by
  refine en_Mo_setClock hG rfl (fun Z ok => ?_)
  refine zz_cS ok rfl trivial rfl lk_Mo_54 ca_Mo_isServer rfl rfl rfl (sp_Mo_isServer hG ?_)
  try simp +decide only [mi0, mi1 (n := s) (by omega)]
  refine zz_b ok rfl trivial rfl (fun h4 => ?_) (fun h4 => ?_)
  · skip
    try simp +decide only [mi0, mi1 (n := s) (by omega)] at h4 ⊢
    have h4 := wi_of h4
    refine zz_i ok rfl trivial rfl rfl ?_
    exact zz_pq h (by simp [m_setClock, nsv, h4]) (by simp [m_setClock, nsv, h4])
  · skip
    try simp +decide only [mi0, mi1 (n := s) (by omega)] at h4 ⊢
    have h4 := wi_nof h4
    obtain ⟨s, hs, rfl⟩ := ni_w (N := 4) (by decide) h4.1 h4.2
    refine zz_cS ok rfl trivial rfl lk_Mo_32 ca_Mo_in rfl rfl rfl (sp_Mo_in hG ?_)
    try simp +decide only [mi0, mi1 (n := s) (by omega)]
    refine zz_b ok rfl trivial rfl (fun h20 => ?_) (fun h20 => ?_)
    · skip
      try simp +decide only [mi0, mi1 (n := s) (by omega)] at h20 ⊢
      have h20 := wi_of h20
      refine zz_i ok rfl trivial rfl rfl ?_
      exact zz_pq h (by simp [m_setClock, nsv, zz_ixn (show s < 2147483648 by omega), mi1 (n := s) (by omega), h4, h20]) (by simp [m_setClock, nsv, zz_ixn (show s < 2147483648 by omega), mi1 (n := s) (by omega), h4, h20])
    · skip
      try simp +decide only [mi0, mi1 (n := s) (by omega)] at h20 ⊢
      have h20 := wi_nof h20
      refine zz_i ok rfl (by and_intros <;> first | trivial | exact vi0 (by decide) (by decide) | exact vi1 (by omega) (by decide) | exact vi2 (by omega) (by decide) | exact vi3 (by omega) (by decide)) rfl rfl ?_
      exact zz_pq h (by simp [m_setClock, nsv, zz_ixn (show s < 2147483648 by omega), mi1 (n := s) (by omega), h4, h20]) (by simp [m_setClock, nsv, zz_ixn (show s < 2147483648 by omega), mi1 (n := s) (by omega), h4, h20])
theorem sp_Mo_clock {G : zG} {post : Option zV → zM → Prop} {M : zM} {a w : Int32} (hG : zz_go G) (h : post (some (.inl (m_clock M a w))) M) : zz_T G md_Mo_clock [.inr (.inr (6, 0, 0)), .inl a, .inl w] M post := by
  refine en_Mo_clock hG rfl (fun Z ok => ?_)
  refine zz_cS ok rfl trivial rfl lk_Mo_54 ca_Mo_isServer rfl rfl rfl (sp_Mo_isServer hG ?_)
  try simp +decide only [mi0, mi1 (n := s) (by omega)]
  refine zz_b ok rfl trivial rfl (fun h4 => ?_) (fun h4 => ?_)
  · skip
    try simp +decide only [mi0, mi1 (n := s) (by omega)] at h4 ⊢
    have h4 := wi_of h4
    refine zz_i ok rfl trivial rfl rfl ?_
    exact zz_pq h (by simp [m_clock, nsv, h4]) rfl
  · skip
    try simp +decide only [mi0, mi1 (n := s) (by omega)] at h4 ⊢
    have h4 := wi_nof h4
    obtain ⟨s, hs, rfl⟩ := ni_w (N := 4) (by decide) h4.1 h4.2
    refine zz_cS ok rfl trivial rfl lk_Mo_32 ca_Mo_in rfl rfl rfl (sp_Mo_in hG ?_)
    try simp +decide only [mi0, mi1 (n := s) (by omega)]
    refine zz_b ok rfl trivial rfl (fun h13 => ?_) (fun h13 => ?_)
    · skip
      try simp +decide only [mi0, mi1 (n := s) (by omega)] at h13 ⊢
      have h13 := wi_of h13
      refine zz_i ok rfl trivial rfl rfl ?_
      exact zz_pq h (by simp [m_clock, nsv, zz_ixn (show s < 2147483648 by omega), mi1 (n := s) (by omega), h4, h13]) rfl
    · skip
      try simp +decide only [mi0, mi1 (n := s) (by omega)] at h13 ⊢
      have h13 := wi_nof h13
      refine zz_b ok rfl trivial rfl (fun h21 => ?_) (fun h21 => ?_)
      · skip
        try simp +decide only [mi0, mi1 (n := s) (by omega)] at h21 ⊢
        refine zz_cV ok rfl trivial rfl lk_Mo_36 ca_Mo_reading rfl rfl rfl rfl rfl (sp_Mo_reading hG rfl hs ?_)
        try simp +decide only [mi0, mi1 (n := s) (by omega)]
        refine zz_i ok rfl trivial rfl rfl ?_
        exact zz_pq h (by simp [m_clock, nsv, zz_ixn (show s < 2147483648 by omega), mi1 (n := s) (by omega), h4, h13, h21]) rfl
      · skip
        try simp +decide only [mi0, mi1 (n := s) (by omega)] at h21 ⊢
        refine zz_b ok rfl trivial rfl (fun h34 => ?_) (fun h34 => ?_)
        · skip
          try simp +decide only [mi0, mi1 (n := s) (by omega)] at h34 ⊢
          refine zz_cV ok rfl trivial rfl lk_Mo_57 ca_Mo_earliest rfl rfl rfl rfl rfl (sp_Mo_earliest hG rfl hs ?_)
          try simp +decide only [mi0, mi1 (n := s) (by omega)]
          refine zz_i ok rfl trivial rfl rfl ?_
          exact zz_pq h (by simp [m_clock, nsv, zz_ixn (show s < 2147483648 by omega), mi1 (n := s) (by omega), h4, h13, h21, h34]) rfl
        · skip
          try simp +decide only [mi0, mi1 (n := s) (by omega)] at h34 ⊢
          refine zz_cV ok rfl trivial rfl lk_Mo_44 ca_Mo_latest rfl rfl rfl rfl rfl (sp_Mo_latest hG rfl hs ?_)
          try simp +decide only [mi0, mi1 (n := s) (by omega)]
          refine zz_i ok rfl trivial rfl rfl ?_
          exact zz_pq h (by simp [m_clock, nsv, zz_ixn (show s < 2147483648 by omega), mi1 (n := s) (by omega), h4, h13, h21, h34]) rfl
theorem sp_Mo_givable {G : zG} {post : Option zV → zM → Prop} {M : zM} {s : Nat} {a : Int32} (hm : mw M) (hG : zz_go G) (ea : a = nI s) (hs : s < 5) (h : post (some (.inl (m_gv M s (mn M (71 + s))))) M) : zz_T G md_Mo_givable [.inr (.inr (6, 0, 0)), .inl a] M post := by
  refine en_Mo_givable hG rfl (fun Z ok => ?_)
  subst ea
  have hd := mw_due hm hs
  have lp6 : ∀ (f k : Nat), mn M (71 + s) - k < f → k ≤ mn M (71 + s) → ∀ (x3 x2 : Int32), x3 = nI k → x2 = m_gv M s k → zz_W G Z md_Mo_givable post 6 [(3, .inl x3), (2, .inl x2), (1, .inl (nI s)), (0, .inr (.inr (6, 0, 0)))] [] M := by
    intro f
    induction f with
    | zero => intro k hf; exact absurd hf (Nat.not_lt_zero _)
    | succ f ih => ?_
    intro k hf hk x3 x2 e3 e2
    subst e3; subst e2
    refine zz_b ok rfl (by and_intros <;> first | exact True.intro | with_reducible exact v0 | with_reducible exact v1436 | with_reducible exact v1437 | with_reducible exact v1438 | with_reducible exact v1647 | with_reducible exact v1728 | with_reducible exact v1734 | with_reducible exact vi1 (by omega) (by decide) | with_reducible exact vi2 (by omega) (by decide) | with_reducible exact vi3 (by omega) (by decide) | with_reducible exact vi1p (by omega) (by decide) | with_reducible exact vi2p (by omega) (by decide) | with_reducible exact vi4 (by omega) (by decide) | with_reducible exact vi4p (by omega) (by decide) | trivial | exact vi0 (by decide) (by decide)) rfl (fun h16 => ?_) (fun h16 => ?_)
    · skip
      try simp +decide only [z0, z1436, z1437, z1438, z1647, z1728, z1734, mi1 (n := s) (by omega), mi1p (b := s) (by omega), mi4 (a := s) (by omega), mi4p (a := s) (by omega), mi1 (n := k) (by omega), mi1p (b := k) (by omega), mi4 (a := k) (by omega), mi4p (a := k) (by omega), mi2 (a := s) (b := k) (by omega) (by omega), mi2p (a := s) (b := k) (by omega) (by omega), mi2 (a := k) (b := s) (by omega) (by omega), mi2p (a := k) (b := s) (by omega) (by omega)] at h16 ⊢
      rw [hd.1, ni_ltn (by omega) (by omega)] at h16
      refine zz_cV ok rfl (by and_intros <;> first | exact True.intro | with_reducible exact v0 | with_reducible exact v1436 | with_reducible exact v1437 | with_reducible exact v1438 | with_reducible exact v1647 | with_reducible exact v1728 | with_reducible exact v1734 | with_reducible exact vi1 (by omega) (by decide) | with_reducible exact vi2 (by omega) (by decide) | with_reducible exact vi3 (by omega) (by decide) | with_reducible exact vi1p (by omega) (by decide) | with_reducible exact vi2p (by omega) (by decide) | with_reducible exact vi4 (by omega) (by decide) | with_reducible exact vi4p (by omega) (by decide) | trivial | exact vi0 (by decide) (by decide)) rfl lk_Mo_57 ca_Mo_earliest rfl rfl rfl rfl rfl (sp_Mo_earliest hG rfl hs ?_)
      try simp +decide only [z0, z1436, z1437, z1438, z1647, z1728, z1734, mi1 (n := s) (by omega), mi1p (b := s) (by omega), mi4 (a := s) (by omega), mi4p (a := s) (by omega), mi1 (n := k) (by omega), mi1p (b := k) (by omega), mi4 (a := k) (by omega), mi4p (a := k) (by omega), mi2 (a := s) (b := k) (by omega) (by omega), mi2p (a := s) (b := k) (by omega) (by omega), mi2 (a := k) (b := s) (by omega) (by omega), mi2p (a := k) (b := s) (by omega) (by omega)]
      refine zz_b ok rfl trivial rfl (fun h43 => ?_) (fun h43 => ?_)
      · skip
        try simp +decide only [z0, z1436, z1437, z1438, z1647, z1728, z1734, mi1 (n := s) (by omega), mi1p (b := s) (by omega), mi4 (a := s) (by omega), mi4p (a := s) (by omega), mi1 (n := k) (by omega), mi1p (b := k) (by omega), mi4 (a := k) (by omega), mi4p (a := k) (by omega), mi2 (a := s) (b := k) (by omega) (by omega), mi2p (a := s) (b := k) (by omega) (by omega), mi2 (a := k) (b := s) (by omega) (by omega), mi2p (a := k) (b := s) (by omega) (by omega)] at h43 ⊢
        refine zz_b ok rfl trivial rfl (fun h50 => ?_) (fun h50 => ?_)
        · skip
          try simp +decide only [z0, z1436, z1437, z1438, z1647, z1728, z1734, mi1 (n := s) (by omega), mi1p (b := s) (by omega), mi4 (a := s) (by omega), mi4p (a := s) (by omega), mi1 (n := k) (by omega), mi1p (b := k) (by omega), mi4 (a := k) (by omega), mi4p (a := k) (by omega), mi2 (a := s) (b := k) (by omega) (by omega), mi2p (a := s) (b := k) (by omega) (by omega), mi2 (a := k) (b := s) (by omega) (by omega), mi2p (a := k) (b := s) (by omega) (by omega)] at h50 ⊢
          refine zz_b ok rfl trivial rfl (fun h82 => ?_) (fun h82 => ?_)
          · skip
            exact absurd h82 (by decide)
          · skip
            try simp +decide only [z0, z1436, z1437, z1438, z1647, z1728, z1734, mi1 (n := s) (by omega), mi1p (b := s) (by omega), mi4 (a := s) (by omega), mi4p (a := s) (by omega), mi1 (n := k) (by omega), mi1p (b := k) (by omega), mi4 (a := k) (by omega), mi4p (a := k) (by omega), mi2 (a := s) (b := k) (by omega) (by omega), mi2p (a := s) (b := k) (by omega) (by omega), mi2 (a := k) (b := s) (by omega) (by omega), mi2p (a := k) (b := s) (by omega) (by omega)] at h82 ⊢
            skip
            refine zz_g ok rfl trivial ?_
            refine zz_pm [3, 2, 1, 0] rfl ?_
            exact ih (k + 1) (by omega) (by omega) _ _ (nI_1 k) (by rw [m_gv, if_pos ⟨h43, Or.inl h50⟩])
        · skip
          try simp +decide only [z0, z1436, z1437, z1438, z1647, z1728, z1734, mi1 (n := s) (by omega), mi1p (b := s) (by omega), mi4 (a := s) (by omega), mi4p (a := s) (by omega), mi1 (n := k) (by omega), mi1p (b := k) (by omega), mi4 (a := k) (by omega), mi4p (a := k) (by omega), mi2 (a := s) (b := k) (by omega) (by omega), mi2p (a := s) (b := k) (by omega) (by omega), mi2 (a := k) (b := s) (by omega) (by omega), mi2p (a := k) (b := s) (by omega) (by omega)] at h50 ⊢
          obtain ⟨i, hi, ei⟩ := (m_gv_in M s k).resolve_left h50
          have eix : zz_ix (m_gv M s k) = i := ni_ix ei (by omega)
          have ej : zz_ix (276 + 40 * nI s + m_gv M s k) = 276 + 40 * s + zz_ix (m_gv M s k) := by
            rw [eix, ei]; simp +decide only [mi2 (a := s) (b := i) (by omega) (by omega)]
          refine zz_b ok rfl (by rw [ei]; exact ⟨vi2 (by omega) (by decide), trivial⟩) rfl (fun h70 => ?_) (fun h70 => ?_)
          · skip
            try simp +decide only [z0, z1436, z1437, z1438, z1647, z1728, z1734, mi1 (n := s) (by omega), mi1p (b := s) (by omega), mi4 (a := s) (by omega), mi4p (a := s) (by omega), mi1 (n := k) (by omega), mi1p (b := k) (by omega), mi4 (a := k) (by omega), mi4p (a := k) (by omega), mi2 (a := s) (b := k) (by omega) (by omega), mi2p (a := s) (b := k) (by omega) (by omega), mi2 (a := k) (b := s) (by omega) (by omega), mi2p (a := k) (b := s) (by omega) (by omega)] at h70 ⊢
            rw [ej] at h70
            refine zz_b ok rfl trivial rfl (fun h82 => ?_) (fun h82 => ?_)
            · skip
              exact absurd h82 (by decide)
            · skip
              try simp +decide only [z0, z1436, z1437, z1438, z1647, z1728, z1734, mi1 (n := s) (by omega), mi1p (b := s) (by omega), mi4 (a := s) (by omega), mi4p (a := s) (by omega), mi1 (n := k) (by omega), mi1p (b := k) (by omega), mi4 (a := k) (by omega), mi4p (a := k) (by omega), mi2 (a := s) (b := k) (by omega) (by omega), mi2p (a := s) (b := k) (by omega) (by omega), mi2 (a := k) (b := s) (by omega) (by omega), mi2p (a := k) (b := s) (by omega) (by omega)] at h82 ⊢
              skip
              refine zz_g ok rfl trivial ?_
              refine zz_pm [3, 2, 1, 0] rfl ?_
              exact ih (k + 1) (by omega) (by omega) _ _ (nI_1 k) (by rw [m_gv, if_pos ⟨h43, Or.inr h70⟩])
          · skip
            try simp +decide only [z0, z1436, z1437, z1438, z1647, z1728, z1734, mi1 (n := s) (by omega), mi1p (b := s) (by omega), mi4 (a := s) (by omega), mi4p (a := s) (by omega), mi1 (n := k) (by omega), mi1p (b := k) (by omega), mi4 (a := k) (by omega), mi4p (a := k) (by omega), mi2 (a := s) (b := k) (by omega) (by omega), mi2p (a := s) (b := k) (by omega) (by omega), mi2 (a := k) (b := s) (by omega) (by omega), mi2p (a := k) (b := s) (by omega) (by omega)] at h70 ⊢
            rw [ej] at h70
            refine zz_b ok rfl trivial rfl (fun h82 => ?_) (fun h82 => ?_)
            · skip
              try simp +decide only [z0, z1436, z1437, z1438, z1647, z1728, z1734, mi1 (n := s) (by omega), mi1p (b := s) (by omega), mi4 (a := s) (by omega), mi4p (a := s) (by omega), mi1 (n := k) (by omega), mi1p (b := k) (by omega), mi4 (a := k) (by omega), mi4p (a := k) (by omega), mi2 (a := s) (b := k) (by omega) (by omega), mi2p (a := s) (b := k) (by omega) (by omega), mi2 (a := k) (b := s) (by omega) (by omega), mi2p (a := k) (b := s) (by omega) (by omega)] at h82 ⊢
              skip
              refine zz_g ok rfl trivial ?_
              refine zz_pm [3, 2, 1, 0] rfl ?_
              exact ih (k + 1) (by omega) (by omega) _ _ (nI_1 k) (by rw [m_gv, if_neg (fun z => z.2.elim h50 h70)])
            · skip
              exact absurd rfl h82
      · skip
        try simp +decide only [z0, z1436, z1437, z1438, z1647, z1728, z1734, mi1 (n := s) (by omega), mi1p (b := s) (by omega), mi4 (a := s) (by omega), mi4p (a := s) (by omega), mi1 (n := k) (by omega), mi1p (b := k) (by omega), mi4 (a := k) (by omega), mi4p (a := k) (by omega), mi2 (a := s) (b := k) (by omega) (by omega), mi2p (a := s) (b := k) (by omega) (by omega), mi2 (a := k) (b := s) (by omega) (by omega), mi2p (a := k) (b := s) (by omega) (by omega)] at h43 ⊢
        refine zz_b ok rfl trivial rfl (fun h82 => ?_) (fun h82 => ?_)
        · skip
          try simp +decide only [z0, z1436, z1437, z1438, z1647, z1728, z1734, mi1 (n := s) (by omega), mi1p (b := s) (by omega), mi4 (a := s) (by omega), mi4p (a := s) (by omega), mi1 (n := k) (by omega), mi1p (b := k) (by omega), mi4 (a := k) (by omega), mi4p (a := k) (by omega), mi2 (a := s) (b := k) (by omega) (by omega), mi2p (a := s) (b := k) (by omega) (by omega), mi2 (a := k) (b := s) (by omega) (by omega), mi2p (a := k) (b := s) (by omega) (by omega)] at h82 ⊢
          skip
          refine zz_g ok rfl trivial ?_
          refine zz_pm [3, 2, 1, 0] rfl ?_
          exact ih (k + 1) (by omega) (by omega) _ _ (nI_1 k) (by rw [m_gv, if_neg (fun z => h43 z.1)])
        · skip
          exact absurd rfl h82
    · skip
      try simp +decide only [z0, z1436, z1437, z1438, z1647, z1728, z1734, mi1 (n := s) (by omega), mi1p (b := s) (by omega), mi4 (a := s) (by omega), mi4p (a := s) (by omega), mi1 (n := k) (by omega), mi1p (b := k) (by omega), mi4 (a := k) (by omega), mi4p (a := k) (by omega), mi2 (a := s) (b := k) (by omega) (by omega), mi2p (a := s) (b := k) (by omega) (by omega), mi2 (a := k) (b := s) (by omega) (by omega), mi2p (a := k) (b := s) (by omega) (by omega)] at h16 ⊢
      rw [hd.1, ni_ltn (by omega) (by omega)] at h16
      have hkd : k = mn M (71 + s) := by omega
      subst hkd
      refine zz_i ok rfl trivial rfl rfl ?_
      exact h
  refine zz_g ok rfl trivial ?_
  refine zz_pm [3, 2, 1, 0] rfl ?_
  exact lp6 (mn M (71 + s) + 1) 0 (by omega) (by omega) _ _ rfl rfl
theorem sp_Mo_gives {G : zG} {post : Option zV → zM → Prop} {M : zM} {s k : Nat} {a b : Int32} (hm : mw M) (hG : zz_go G) (ea : a = nI s) (hs : s < 5) (eb : b = nI k) (hk : k < mn M (71 + s)) (h : post none (m_gi M s k)) : zz_T G md_Mo_gives [.inr (.inr (6, 0, 0)), .inl a, .inl b] M post := by
  refine en_Mo_gives hG rfl (fun Z ok => ?_)
  subst ea; subst eb
  have hd := mw_due hm hs
  have hn := m_g0_k hm
  refine zz_b ok rfl (by and_intros <;> first | exact True.intro | with_reducible exact v0 | with_reducible exact v1436 | with_reducible exact v1437 | with_reducible exact v1438 | with_reducible exact v1647 | with_reducible exact v1728 | with_reducible exact v1734 | with_reducible exact vi1 (by omega) (by decide) | with_reducible exact vi2 (by omega) (by decide) | with_reducible exact vi3 (by omega) (by decide) | with_reducible exact vi1p (by omega) (by decide) | with_reducible exact vi2p (by omega) (by decide) | with_reducible exact vi4 (by omega) (by decide) | with_reducible exact vi4p (by omega) (by decide) | trivial | exact vi0 (by decide) (by decide)) rfl (fun h10 => ?_) (fun h10 => ?_)
  · skip
    try simp +decide only [z0, z1436, z1437, z1438, z1647, z1728, z1734] at h10 ⊢
    have lp15 : ∀ (f j : Nat), 196 - j < f → j ≤ 196 → ∀ (x3 : Int32) (M' : zM), x3 = nI j → M' = zz_cpy M (20, 0, 0) (20, 0, 0) 1443 1439 j → zz_W G Z md_Mo_gives post 15 [(3, .inl x3), (2, .inl (nI k)), (1, .inl (nI s)), (0, .inr (.inr (6, 0, 0)))] [] M' := by
      intro f
      induction f with
      | zero => intro j hf; exact absurd hf (Nat.not_lt_zero _)
      | succ f ih => ?_
      intro j hf hj x3 M' e3 eM
      subst e3
      refine zz_b ok rfl trivial rfl (fun h19 => ?_) (fun h19 => ?_)
      · skip
        try simp +decide only [z0, z1436, z1437, z1438, z1647, z1728, z1734] at h19 ⊢
        rw [ni_lit, ni_ltn (by omega) (by decide)] at h19
        refine zz_gx ok [15, 62, 77, 183] rfl (by and_intros <;> first | exact True.intro | with_reducible exact v0 | with_reducible exact v1436 | with_reducible exact v1437 | with_reducible exact v1438 | with_reducible exact v1647 | with_reducible exact v1728 | with_reducible exact v1734 | with_reducible exact vi1 (by omega) (by decide) | with_reducible exact vi2 (by omega) (by decide) | with_reducible exact vi3 (by omega) (by decide) | with_reducible exact vi1p (by omega) (by decide) | with_reducible exact vi2p (by omega) (by decide) | with_reducible exact vi4 (by omega) (by decide) | with_reducible exact vi4p (by omega) (by decide) | trivial | exact vi0 (by decide) (by decide)) ?_
        refine zz_pm [3, 2, 1, 0] rfl ?_
        exact ih (j + 1) (by omega) (by omega) _ _ (nI_1 j) (by simp +decide only [z0, z1436, z1437, z1438, z1647, z1728, z1734, mi1 (n := j) (by omega), mi1p (b := j) (by omega)]; rw [← cpy_step (by intro _; omega), ← eM, show 1439 + j + 4 = 1443 + j by omega])
      · skip
        try simp +decide only [z0, z1436, z1437, z1438, z1647, z1728, z1734] at h19 ⊢
        rw [ni_lit, ni_ltn (by omega) (by decide)] at h19
        have hj6 : j = 196 := by omega
        subst hj6
        have lp62 : ∀ (M' : zM), M' = m_g0 M → zz_W G Z md_Mo_gives post 62 [(2, .inl (nI k)), (1, .inl (nI s)), (0, .inr (.inr (6, 0, 0)))] [] M' := by
          intro M' eM
          have hK : M'.1 (20, 0, 0) 1437 = nI (mn (m_g0 M) 1437) := by rw [eM]; exact hn.1
          have hD : M'.1 (20, 0, 0) (71 + s) = nI (mn M (71 + s)) := by rw [eM, m_g0_q (by omega)]; exact hd.1
          generalize en : mn (m_g0 M) 1437 = n at hK hn
          generalize ed : mn M (71 + s) = d at hD hd hk
          have lp77 : ∀ (x3 : Int32), x3 = 1439 + 4 * nI n → zz_W G Z md_Mo_gives post 77 [(3, .inl x3), (2, .inl (nI k)), (1, .inl (nI s)), (0, .inr (.inr (6, 0, 0)))] [] M' := by
            intro x3 e3
            subst e3
            have lp183 : ∀ (f i : Nat), (d - 1 - k) - i < f → i ≤ d - 1 - k → ∀ (x4 : Int32) (A : zM), x4 = nI (k + i) → A = m_g2 (m_g1 M' s k n d) s k i → zz_W G Z md_Mo_gives post 183 [(4, .inl x4), (2, .inl (nI k)), (1, .inl (nI s)), (0, .inr (.inr (6, 0, 0)))] [] A := by
              intro f
              induction f with
              | zero => intro k hf; exact absurd hf (Nat.not_lt_zero _)
              | succ f ih => ?_
              intro i hf hi x4 A e4 eA
              subst e4
              have hA : A.1 (20, 0, 0) (71 + s) = nI (d - 1) := by rw [eA, m_g2_q hs (by omega) (by omega), m_g1_d]
              refine zz_b ok rfl (by and_intros <;> first | exact True.intro | with_reducible exact v0 | with_reducible exact v1436 | with_reducible exact v1437 | with_reducible exact v1438 | with_reducible exact v1647 | with_reducible exact v1728 | with_reducible exact v1734 | with_reducible exact vi1 (by omega) (by decide) | with_reducible exact vi2 (by omega) (by decide) | with_reducible exact vi3 (by omega) (by decide) | with_reducible exact vi1p (by omega) (by decide) | with_reducible exact vi2p (by omega) (by decide) | with_reducible exact vi4 (by omega) (by decide) | with_reducible exact vi4p (by omega) (by decide) | trivial | exact vi0 (by decide) (by decide)) rfl (fun h194 => ?_) (fun h194 => ?_)
              · skip
                try simp +decide only [z0, z1436, z1437, z1438, z1647, z1728, z1734] at h194 ⊢
                simp +decide only [mi1 (n := s) (by omega)] at h194
                rw [hA, ni_ltn (by omega) (by omega)] at h194
                refine zz_gx ok [15, 62, 77, 183] rfl (by and_intros <;> first | exact True.intro | with_reducible exact v0 | with_reducible exact v1436 | with_reducible exact v1437 | with_reducible exact v1438 | with_reducible exact v1647 | with_reducible exact v1728 | with_reducible exact v1734 | with_reducible exact vi1 (by omega) (by decide) | with_reducible exact vi2 (by omega) (by decide) | with_reducible exact vi3 (by omega) (by decide) | with_reducible exact vi1p (by omega) (by decide) | with_reducible exact vi2p (by omega) (by decide) | with_reducible exact vi4 (by omega) (by decide) | with_reducible exact vi4p (by omega) (by decide) | trivial | exact vi0 (by decide) (by decide)) ?_
                refine zz_pm [4, 2, 1, 0] rfl ?_
                exact ih (i + 1) (by omega) (by omega) _ _ (by rw [nI_1]; congr 1) (by simp +decide only [mi2 (a := s) (b := k + i) (by omega) (by omega), mi2p (a := s) (b := k + i) (by omega) (by omega)]; rw [eA]; exact m_g2_step hs (by omega))
              · skip
                try simp +decide only [z0, z1436, z1437, z1438, z1647, z1728, z1734] at h194 ⊢
                simp +decide only [mi1 (n := s) (by omega)] at h194
                rw [hA, ni_ltn (by omega) (by omega)] at h194
                have hi6 : i = d - 1 - k := by omega
                refine zz_v ok rfl trivial rfl rfl ?_
                exact zz_pq h rfl (by rw [eA, hi6, eM, ← en, ← ed]; rfl)
            refine zz_gx ok [15, 62, 77, 183] rfl (by and_intros <;> first | exact True.intro | with_reducible exact v0 | with_reducible exact v1436 | with_reducible exact v1437 | with_reducible exact v1438 | with_reducible exact v1647 | with_reducible exact v1728 | with_reducible exact v1734 | with_reducible exact vi1 (by omega) (by decide) | with_reducible exact vi2 (by omega) (by decide) | with_reducible exact vi3 (by omega) (by decide) | with_reducible exact vi1p (by omega) (by decide) | with_reducible exact vi2p (by omega) (by decide) | with_reducible exact vi4 (by omega) (by decide) | with_reducible exact vi4p (by omega) (by decide) | trivial | exact vi0 (by decide) (by decide)) ?_
            refine zz_pm [4, 2, 1, 0] rfl ?_
            exact lp183 (d + 1) 0 (by omega) (by omega) _ _ rfl (by
              rw [m_g2_0]; unfold m_g1
              simp +decide only [z0, z1436, z1437, z1438, z1647, z1728, z1734, mi1 (n := s) (by omega), mi2 (a := s) (b := k) (by omega) (by omega), qg, hK, mi4 (a := n) (by omega), mi4p (a := n) (by omega)]
              have hd1 : nI d - 1 = nI (d - 1) := by rw [show (1 : Int32) = nI 1 from rfl, ni_subn (by omega)]
              simp (disch := omega) only [if_neg, if_true, if_false, hK, hD, nI_1, hd1]
              try rfl)
          refine zz_gx ok [15, 62, 77, 183] rfl (by and_intros <;> first | exact True.intro | with_reducible exact v0 | with_reducible exact v1436 | with_reducible exact v1437 | with_reducible exact v1438 | with_reducible exact v1647 | with_reducible exact v1728 | with_reducible exact v1734 | with_reducible exact vi1 (by omega) (by decide) | with_reducible exact vi2 (by omega) (by decide) | with_reducible exact vi3 (by omega) (by decide) | with_reducible exact vi1p (by omega) (by decide) | with_reducible exact vi2p (by omega) (by decide) | with_reducible exact vi4 (by omega) (by decide) | with_reducible exact vi4p (by omega) (by decide) | trivial | exact vi0 (by decide) (by decide)) ?_
          refine zz_pm [3, 2, 1, 0] rfl ?_
          exact lp77 _ (by rw [show zz_ix 1437 = 1437 from rfl, hK])
        refine zz_gx ok [15, 62, 77, 183] rfl (by and_intros <;> first | exact True.intro | with_reducible exact v0 | with_reducible exact v1436 | with_reducible exact v1437 | with_reducible exact v1438 | with_reducible exact v1647 | with_reducible exact v1728 | with_reducible exact v1734 | with_reducible exact vi1 (by omega) (by decide) | with_reducible exact vi2 (by omega) (by decide) | with_reducible exact vi3 (by omega) (by decide) | with_reducible exact vi1p (by omega) (by decide) | with_reducible exact vi2p (by omega) (by decide) | with_reducible exact vi4 (by omega) (by decide) | with_reducible exact vi4p (by omega) (by decide) | trivial | exact vi0 (by decide) (by decide)) ?_
        refine zz_pm [2, 1, 0] rfl ?_
        exact lp62 _ (by first | (unfold m_g0 q; rw [if_neg h10]) | (have h10 : M.1 (20, 0, 0) 1437 = 50 := h10; unfold m_g0 q; rw [if_pos h10, eM]; simp +decide only [z0, z1436, z1437, z1438, z1647, z1728, z1734]; congr 1; rw [qgc, if_neg (by omega), h10]; rfl))
    refine zz_gx ok [15, 62, 77, 183] rfl trivial ?_
    refine zz_pm [3, 2, 1, 0] rfl ?_
    exact lp15 197 0 (by omega) (by omega) _ _ rfl (cpy0 _ _ _ _ _).symm
  · skip
    try simp +decide only [z0, z1436, z1437, z1438, z1647, z1728, z1734] at h10 ⊢
    have lp62 : ∀ (M' : zM), M' = m_g0 M → zz_W G Z md_Mo_gives post 62 [(2, .inl (nI k)), (1, .inl (nI s)), (0, .inr (.inr (6, 0, 0)))] [] M' := by
      intro M' eM
      have hK : M'.1 (20, 0, 0) 1437 = nI (mn (m_g0 M) 1437) := by rw [eM]; exact hn.1
      have hD : M'.1 (20, 0, 0) (71 + s) = nI (mn M (71 + s)) := by rw [eM, m_g0_q (by omega)]; exact hd.1
      generalize en : mn (m_g0 M) 1437 = n at hK hn
      generalize ed : mn M (71 + s) = d at hD hd hk
      have lp77 : ∀ (x3 : Int32), x3 = 1439 + 4 * nI n → zz_W G Z md_Mo_gives post 77 [(3, .inl x3), (2, .inl (nI k)), (1, .inl (nI s)), (0, .inr (.inr (6, 0, 0)))] [] M' := by
        intro x3 e3
        subst e3
        have lp183 : ∀ (f i : Nat), (d - 1 - k) - i < f → i ≤ d - 1 - k → ∀ (x4 : Int32) (A : zM), x4 = nI (k + i) → A = m_g2 (m_g1 M' s k n d) s k i → zz_W G Z md_Mo_gives post 183 [(4, .inl x4), (2, .inl (nI k)), (1, .inl (nI s)), (0, .inr (.inr (6, 0, 0)))] [] A := by
          intro f
          induction f with
          | zero => intro k hf; exact absurd hf (Nat.not_lt_zero _)
          | succ f ih => ?_
          intro i hf hi x4 A e4 eA
          subst e4
          have hA : A.1 (20, 0, 0) (71 + s) = nI (d - 1) := by rw [eA, m_g2_q hs (by omega) (by omega), m_g1_d]
          refine zz_b ok rfl (by and_intros <;> first | exact True.intro | with_reducible exact v0 | with_reducible exact v1436 | with_reducible exact v1437 | with_reducible exact v1438 | with_reducible exact v1647 | with_reducible exact v1728 | with_reducible exact v1734 | with_reducible exact vi1 (by omega) (by decide) | with_reducible exact vi2 (by omega) (by decide) | with_reducible exact vi3 (by omega) (by decide) | with_reducible exact vi1p (by omega) (by decide) | with_reducible exact vi2p (by omega) (by decide) | with_reducible exact vi4 (by omega) (by decide) | with_reducible exact vi4p (by omega) (by decide) | trivial | exact vi0 (by decide) (by decide)) rfl (fun h194 => ?_) (fun h194 => ?_)
          · skip
            try simp +decide only [z0, z1436, z1437, z1438, z1647, z1728, z1734] at h194 ⊢
            simp +decide only [mi1 (n := s) (by omega)] at h194
            rw [hA, ni_ltn (by omega) (by omega)] at h194
            refine zz_gx ok [15, 62, 77, 183] rfl (by and_intros <;> first | exact True.intro | with_reducible exact v0 | with_reducible exact v1436 | with_reducible exact v1437 | with_reducible exact v1438 | with_reducible exact v1647 | with_reducible exact v1728 | with_reducible exact v1734 | with_reducible exact vi1 (by omega) (by decide) | with_reducible exact vi2 (by omega) (by decide) | with_reducible exact vi3 (by omega) (by decide) | with_reducible exact vi1p (by omega) (by decide) | with_reducible exact vi2p (by omega) (by decide) | with_reducible exact vi4 (by omega) (by decide) | with_reducible exact vi4p (by omega) (by decide) | trivial | exact vi0 (by decide) (by decide)) ?_
            refine zz_pm [4, 2, 1, 0] rfl ?_
            exact ih (i + 1) (by omega) (by omega) _ _ (by rw [nI_1]; congr 1) (by simp +decide only [mi2 (a := s) (b := k + i) (by omega) (by omega), mi2p (a := s) (b := k + i) (by omega) (by omega)]; rw [eA]; exact m_g2_step hs (by omega))
          · skip
            try simp +decide only [z0, z1436, z1437, z1438, z1647, z1728, z1734] at h194 ⊢
            simp +decide only [mi1 (n := s) (by omega)] at h194
            rw [hA, ni_ltn (by omega) (by omega)] at h194
            have hi6 : i = d - 1 - k := by omega
            refine zz_v ok rfl trivial rfl rfl ?_
            exact zz_pq h rfl (by rw [eA, hi6, eM, ← en, ← ed]; rfl)
        refine zz_gx ok [15, 62, 77, 183] rfl (by and_intros <;> first | exact True.intro | with_reducible exact v0 | with_reducible exact v1436 | with_reducible exact v1437 | with_reducible exact v1438 | with_reducible exact v1647 | with_reducible exact v1728 | with_reducible exact v1734 | with_reducible exact vi1 (by omega) (by decide) | with_reducible exact vi2 (by omega) (by decide) | with_reducible exact vi3 (by omega) (by decide) | with_reducible exact vi1p (by omega) (by decide) | with_reducible exact vi2p (by omega) (by decide) | with_reducible exact vi4 (by omega) (by decide) | with_reducible exact vi4p (by omega) (by decide) | trivial | exact vi0 (by decide) (by decide)) ?_
        refine zz_pm [4, 2, 1, 0] rfl ?_
        exact lp183 (d + 1) 0 (by omega) (by omega) _ _ rfl (by
          rw [m_g2_0]; unfold m_g1
          simp +decide only [z0, z1436, z1437, z1438, z1647, z1728, z1734, mi1 (n := s) (by omega), mi2 (a := s) (b := k) (by omega) (by omega), qg, hK, mi4 (a := n) (by omega), mi4p (a := n) (by omega)]
          have hd1 : nI d - 1 = nI (d - 1) := by rw [show (1 : Int32) = nI 1 from rfl, ni_subn (by omega)]
          simp (disch := omega) only [if_neg, if_true, if_false, hK, hD, nI_1, hd1]
          try rfl)
      refine zz_gx ok [15, 62, 77, 183] rfl (by and_intros <;> first | exact True.intro | with_reducible exact v0 | with_reducible exact v1436 | with_reducible exact v1437 | with_reducible exact v1438 | with_reducible exact v1647 | with_reducible exact v1728 | with_reducible exact v1734 | with_reducible exact vi1 (by omega) (by decide) | with_reducible exact vi2 (by omega) (by decide) | with_reducible exact vi3 (by omega) (by decide) | with_reducible exact vi1p (by omega) (by decide) | with_reducible exact vi2p (by omega) (by decide) | with_reducible exact vi4 (by omega) (by decide) | with_reducible exact vi4p (by omega) (by decide) | trivial | exact vi0 (by decide) (by decide)) ?_
      refine zz_pm [3, 2, 1, 0] rfl ?_
      exact lp77 _ (by rw [show zz_ix 1437 = 1437 from rfl, hK])
    refine zz_pm [2, 1, 0] rfl ?_
    exact lp62 _ (by first | (unfold m_g0 q; rw [if_neg h10]) | (have h10 : M.1 (20, 0, 0) 1437 = 50 := h10; unfold m_g0 q; rw [if_pos h10, eM]; simp +decide only [z0, z1436, z1437, z1438, z1647, z1728, z1734]; congr 1; rw [qgc, if_neg (by omega), h10]; rfl))
theorem sp_Mo_pass {G : zG} {post : Option zV → zM → Prop} {M : zM} {t : Int32} (hm : mw M) (hG : zz_go G) (h : post (some (.inl (m_pass M t).1)) (m_pass M t).2) : zz_T G md_Mo_pass [.inr (.inr (6, 0, 0)), .inl t] M post := by
  refine en_Mo_pass hG rfl (fun Z ok => ?_)
  refine zz_cS ok rfl trivial rfl lk_Mo_32 ca_Mo_in rfl rfl rfl (sp_Mo_in hG ?_)
  try simp +decide only [z0]
  refine zz_b ok rfl trivial rfl (fun h8 => ?_) (fun h8 => ?_)
  · skip
    try simp +decide only [z0] at h8 ⊢
    have h8 := wi_of h8
    refine zz_i ok rfl trivial rfl rfl ?_
    exact zz_pq h (by simp [m_pass, nsv, h8]) (by simp [m_pass, nsv, h8])
  · skip
    try simp +decide only [z0] at h8 ⊢
    have h8 := wi_nof h8
    obtain ⟨T, hT, rfl⟩ : ∃ T : Nat, T ≤ 200 ∧ t = nI T := by
      have h1 := h8.1; have h2 := h8.2
      rw [ni_lt] at h1 h2
      have e1 : (1 : Int32).toInt = 1 := rfl
      have e2 : (200 : Int32).toInt = 200 := rfl
      obtain ⟨n, hn, e⟩ := ni_of (x := t) (N := 201) (by omega) (by omega)
      exact ⟨n, by omega, e⟩
    have eT : zz_ix (nI T) = T := zz_ixn (by omega)
    refine zz_b ok rfl (by and_intros <;> first | exact True.intro | with_reducible exact v0 | with_reducible exact v1436 | with_reducible exact v1437 | with_reducible exact v1438 | with_reducible exact v1647 | with_reducible exact v1728 | with_reducible exact v1734 | with_reducible exact vi1 (by omega) (by decide) | with_reducible exact vi2 (by omega) (by decide) | with_reducible exact vi3 (by omega) (by decide) | with_reducible exact vi1p (by omega) (by decide) | with_reducible exact vi2p (by omega) (by decide) | with_reducible exact vi4 (by omega) (by decide) | with_reducible exact vi4p (by omega) (by decide) | trivial | exact vi0 (by decide) (by decide)) rfl (fun h25 => ?_) (fun h25 => ?_)
    · skip
      try simp +decide only [z0] at h25 ⊢
      refine zz_i ok rfl trivial rfl rfl ?_
      exact zz_pq h (by simp [m_pass, nsv, h8, h25]) (by simp [m_pass, nsv, h8, h25])
    · skip
      try simp +decide only [z0] at h25 ⊢
      have lp34 : ∀ (f k : Nat), T - k < f → k ≤ T → ∀ (x2 : Int32) (M' : zM), x2 = nI k → M' = m_tks M k → mw M' → zz_W G Z md_Mo_pass post 34 [(2, .inl x2), (1, .inl (nI T)), (0, .inr (.inr (6, 0, 0)))] [] M' := by
        intro f
        induction f with
        | zero => intro k hf; exact absurd hf (Nat.not_lt_zero _)
        | succ f ih => ?_
        intro k hf hk x2 M' e2 eM hmA
        subst e2
        refine zz_b ok rfl trivial rfl (fun h36 => ?_) (fun h36 => ?_)
        · skip
          try simp +decide only [z0] at h36 ⊢
          rw [ni_ltn (by omega) (by omega)] at h36
          have lp51 : ∀ (g j : Nat), 5 - j < g → j ≤ 5 → ∀ (x3 : Int32) (B : zM), x3 = nI j → B = zz_it m_tk1 j (qs M' 0 (q M' 0 + 1)) → mw B → zz_W G Z md_Mo_pass post 51 [(3, .inl x3), (2, .inl (nI k)), (1, .inl (nI T)), (0, .inr (.inr (6, 0, 0)))] [] B := by
            intro g
            induction g with
            | zero => intro j hg; exact absurd hg (Nat.not_lt_zero _)
            | succ g ih2 => ?_
            intro j hg hj x3 B e3 eB hmB
            subst e3
            refine zz_b ok rfl trivial rfl (fun h53 => ?_) (fun h53 => ?_)
            · skip
              try simp +decide only [z0] at h53 ⊢
              rw [ni_lit, ni_ltn (by omega) (by decide)] at h53
              have hj5 : j < 5 := h53
              refine zz_cV ok rfl trivial rfl lk_Mo_40 ca_Mo_runs rfl rfl rfl rfl rfl (sp_Mo_runs hG rfl hj5 ?_)
              try simp +decide only [z0]
              refine zz_b ok rfl trivial rfl (fun h61 => ?_) (fun h61 => ?_)
              · skip
                try simp +decide only [z0] at h61 ⊢
                simp only [zz_bi0, Bool.not_eq_false] at h61
                have lp77 : ∀ (f2 : Nat) (x4 : Int32) (C : zM), mn C (71 + j) < f2 → (x4 = m_gv C j (mn C (71 + j)) ∧ m_tk1 j B = m_gs j (mn C (71 + j)) C ∨ x4 = -1000 ∧ m_tk1 j B = C) → mw C → zz_W G Z md_Mo_pass post 77 [(4, .inl x4), (3, .inl (nI j)), (2, .inl (nI k)), (1, .inl (nI T)), (0, .inr (.inr (6, 0, 0)))] [] C := by
                  intro f2
                  induction f2 with
                  | zero => intro x4 C hg; exact absurd hg (Nat.not_lt_zero _)
                  | succ f2 ih3 => ?_
                  intro x4 C hf2 hx hmC
                  refine zz_b ok rfl trivial rfl (fun h82 => ?_) (fun h82 => ?_)
                  · skip
                    try simp +decide only [z0] at h82 ⊢
                    have hC : C = m_tk1 j B := by
                      rcases hx with ⟨e, hx⟩ | ⟨e, hx⟩
                      · rw [hx]; cases hd : mn C (71 + j) with
                        | zero => rfl
                        | succ n => rw [m_gs, if_pos (by rw [← e]; exact h82)]
                      · exact hx.symm
                    refine zz_g ok rfl trivial ?_
                    refine zz_pm [3, 2, 1, 0] rfl ?_
                    exact ih2 (j + 1) (by omega) (by omega) _ _ (nI_1 j) (by rw [zz_it, ← eB]; exact hC) hmC
                  · skip
                    try simp +decide only [z0] at h82 ⊢
                    obtain ⟨e, hx⟩ := hx.resolve_right (fun z => h82 z.1)
                    obtain ⟨i, hgi, eg⟩ := (m_gv_in C j (mn C (71 + j))).resolve_left (fun z => h82 (e.trans z))
                    have hdu := mw_due hmC hj5
                    have hgs : m_tk1 j B = m_gs j (mn C (71 + j) - 1) (m_gi C j i) := by
                      rw [hx, show mn C (71 + j) = mn C (71 + j) - 1 + 1 by omega, m_gs, show mn C (71 + j) - 1 + 1 = mn C (71 + j) by omega, if_neg (by rw [← e]; exact h82), eg, zz_ixn (by omega)]
                    have eg := e.trans eg
                    refine zz_cV ok rfl trivial rfl lk_Mo_64 ca_Mo_gives rfl rfl rfl rfl rfl (sp_Mo_gives hmC hG rfl hj5 eg hgi ?_)
                    try simp +decide only [z0]
                    refine zz_cV ok rfl trivial rfl lk_Mo_61 ca_Mo_givable rfl rfl rfl rfl rfl (sp_Mo_givable (m_gi_mw hj5 hmC hgi) hG rfl hj5 ?_)
                    try simp +decide only [z0]
                    refine zz_g ok rfl trivial ?_
                    refine zz_pm [4, 3, 2, 1, 0] rfl ?_
                    exact ih3 _ _ (by rw [m_gi_due hj5 hmC hgi]; omega) (Or.inl ⟨rfl, by rw [m_gi_due hj5 hmC hgi]; exact hgs⟩) (m_gi_mw hj5 hmC hgi)
                refine zz_g ok rfl trivial ?_
                refine zz_pm [4, 3, 2, 1, 0] rfl ?_
                exact lp77 _ _ _ (Nat.lt_succ_self _) (Or.inr ⟨rfl, by rw [m_tk1, if_neg (by simp [h61])]⟩) hmB
              · skip
                try simp +decide only [z0] at h61 ⊢
                simp only [zz_bi0, Bool.not_eq_false] at h61
                refine zz_cV ok rfl trivial rfl lk_Mo_61 ca_Mo_givable rfl rfl rfl rfl rfl (sp_Mo_givable hmB hG rfl hj5 ?_)
                try simp +decide only [z0]
                have lp77 : ∀ (f2 : Nat) (x4 : Int32) (C : zM), mn C (71 + j) < f2 → (x4 = m_gv C j (mn C (71 + j)) ∧ m_tk1 j B = m_gs j (mn C (71 + j)) C ∨ x4 = -1000 ∧ m_tk1 j B = C) → mw C → zz_W G Z md_Mo_pass post 77 [(4, .inl x4), (3, .inl (nI j)), (2, .inl (nI k)), (1, .inl (nI T)), (0, .inr (.inr (6, 0, 0)))] [] C := by
                  intro f2
                  induction f2 with
                  | zero => intro x4 C hg; exact absurd hg (Nat.not_lt_zero _)
                  | succ f2 ih3 => ?_
                  intro x4 C hf2 hx hmC
                  refine zz_b ok rfl trivial rfl (fun h82 => ?_) (fun h82 => ?_)
                  · skip
                    try simp +decide only [z0] at h82 ⊢
                    have hC : C = m_tk1 j B := by
                      rcases hx with ⟨e, hx⟩ | ⟨e, hx⟩
                      · rw [hx]; cases hd : mn C (71 + j) with
                        | zero => rfl
                        | succ n => rw [m_gs, if_pos (by rw [← e]; exact h82)]
                      · exact hx.symm
                    refine zz_g ok rfl trivial ?_
                    refine zz_pm [3, 2, 1, 0] rfl ?_
                    exact ih2 (j + 1) (by omega) (by omega) _ _ (nI_1 j) (by rw [zz_it, ← eB]; exact hC) hmC
                  · skip
                    try simp +decide only [z0] at h82 ⊢
                    obtain ⟨e, hx⟩ := hx.resolve_right (fun z => h82 z.1)
                    obtain ⟨i, hgi, eg⟩ := (m_gv_in C j (mn C (71 + j))).resolve_left (fun z => h82 (e.trans z))
                    have hdu := mw_due hmC hj5
                    have hgs : m_tk1 j B = m_gs j (mn C (71 + j) - 1) (m_gi C j i) := by
                      rw [hx, show mn C (71 + j) = mn C (71 + j) - 1 + 1 by omega, m_gs, show mn C (71 + j) - 1 + 1 = mn C (71 + j) by omega, if_neg (by rw [← e]; exact h82), eg, zz_ixn (by omega)]
                    have eg := e.trans eg
                    refine zz_cV ok rfl trivial rfl lk_Mo_64 ca_Mo_gives rfl rfl rfl rfl rfl (sp_Mo_gives hmC hG rfl hj5 eg hgi ?_)
                    try simp +decide only [z0]
                    refine zz_cV ok rfl trivial rfl lk_Mo_61 ca_Mo_givable rfl rfl rfl rfl rfl (sp_Mo_givable (m_gi_mw hj5 hmC hgi) hG rfl hj5 ?_)
                    try simp +decide only [z0]
                    refine zz_g ok rfl trivial ?_
                    refine zz_pm [4, 3, 2, 1, 0] rfl ?_
                    exact ih3 _ _ (by rw [m_gi_due hj5 hmC hgi]; omega) (Or.inl ⟨rfl, by rw [m_gi_due hj5 hmC hgi]; exact hgs⟩) (m_gi_mw hj5 hmC hgi)
                refine zz_g ok rfl trivial ?_
                refine zz_pm [4, 3, 2, 1, 0] rfl ?_
                exact lp77 _ _ _ (Nat.lt_succ_self _) (Or.inl ⟨rfl, by rw [m_tk1, if_pos h61]⟩) hmB
            · skip
              try simp +decide only [z0] at h53 ⊢
              rw [ni_lit, ni_ltn (by omega) (by decide)] at h53
              have hj6 : j = 5 := by omega
              subst hj6
              refine zz_g ok rfl trivial ?_
              refine zz_pm [2, 1, 0] rfl ?_
              exact ih (k + 1) (by omega) (by omega) _ _ (nI_1 k) (by rw [eB, m_tks, ← eM]; rfl) hmB
          refine zz_g ok rfl (by and_intros <;> first | exact True.intro | with_reducible exact v0 | with_reducible exact v1436 | with_reducible exact v1437 | with_reducible exact v1438 | with_reducible exact v1647 | with_reducible exact v1728 | with_reducible exact v1734 | with_reducible exact vi1 (by omega) (by decide) | with_reducible exact vi2 (by omega) (by decide) | with_reducible exact vi3 (by omega) (by decide) | with_reducible exact vi1p (by omega) (by decide) | with_reducible exact vi2p (by omega) (by decide) | with_reducible exact vi4 (by omega) (by decide) | with_reducible exact vi4p (by omega) (by decide) | trivial | exact vi0 (by decide) (by decide)) ?_
          refine zz_pm [3, 2, 1, 0] rfl ?_
          exact lp51 6 0 (by omega) (by omega) _ _ rfl rfl (mw_set (i := 0) (by unfold mwi; omega) hmA)
        · skip
          try simp +decide only [z0] at h36 ⊢
          rw [ni_ltn (by omega) (by omega)] at h36
          have hkT : k = T := by omega
          subst hkT
          refine zz_i ok rfl (by and_intros <;> first | exact True.intro | with_reducible exact v0 | with_reducible exact v1436 | with_reducible exact v1437 | with_reducible exact v1438 | with_reducible exact v1647 | with_reducible exact v1728 | with_reducible exact v1734 | with_reducible exact vi1 (by omega) (by decide) | with_reducible exact vi2 (by omega) (by decide) | with_reducible exact vi3 (by omega) (by decide) | with_reducible exact vi1p (by omega) (by decide) | with_reducible exact vi2p (by omega) (by decide) | with_reducible exact vi4 (by omega) (by decide) | with_reducible exact vi4p (by omega) (by decide) | trivial | exact vi0 (by decide) (by decide)) rfl rfl ?_
          rw [eM]
          exact zz_pq h (by simp [m_pass, h8, h25, eT, z0]) (by simp [m_pass, h8, h25, eT])
      refine zz_g ok rfl trivial ?_
      refine zz_pm [2, 1, 0] rfl ?_
      exact lp34 (T + 1) 0 (by omega) (by omega) _ _ rfl rfl hm
theorem sp_Mo_setState {G : zG} {post : Option zV → zM → Prop} {M : zM} {a x : Int32} (hG : zz_go G) (h : post (some (.inl (m_setState M a x).1)) (m_setState M a x).2) : zz_T G md_Mo_setState [.inr (.inr (6, 0, 0)), .inl a, .inl x] M post := by
  refine en_Mo_setState hG rfl (fun Z ok => ?_)
  refine zz_cS ok rfl trivial rfl lk_Mo_54 ca_Mo_isServer rfl rfl rfl (sp_Mo_isServer hG ?_)
  try simp +decide only [mi0, mi1 (n := s) (by omega)]
  refine zz_b ok rfl trivial rfl (fun h4 => ?_) (fun h4 => ?_)
  · skip
    try simp +decide only [mi0, mi1 (n := s) (by omega)] at h4 ⊢
    have h4 := wi_of h4
    refine zz_i ok rfl trivial rfl rfl ?_
    exact zz_pq h (by simp [m_setState, nsv, h4]) (by simp [m_setState, nsv, h4])
  · skip
    try simp +decide only [mi0, mi1 (n := s) (by omega)] at h4 ⊢
    have h4 := wi_nof h4
    obtain ⟨s, hs, rfl⟩ := ni_w (N := 4) (by decide) h4.1 h4.2
    refine zz_cS ok rfl trivial rfl lk_Mo_32 ca_Mo_in rfl rfl rfl (sp_Mo_in hG ?_)
    try simp +decide only [mi0, mi1 (n := s) (by omega)]
    refine zz_b ok rfl trivial rfl (fun h13 => ?_) (fun h13 => ?_)
    · skip
      try simp +decide only [mi0, mi1 (n := s) (by omega)] at h13 ⊢
      have h13 := wi_of h13
      refine zz_i ok rfl trivial rfl rfl ?_
      exact zz_pq h (by simp [m_setState, nsv, zz_ixn (show s < 2147483648 by omega), mi1 (n := s) (by omega), h4, h13]) (by simp [m_setState, nsv, zz_ixn (show s < 2147483648 by omega), mi1 (n := s) (by omega), h4, h13])
    · skip
      try simp +decide only [mi0, mi1 (n := s) (by omega)] at h13 ⊢
      have h13 := wi_nof h13
      refine zz_b ok rfl (by and_intros <;> first | trivial | exact vi0 (by decide) (by decide) | exact vi1 (by omega) (by decide) | exact vi2 (by omega) (by decide) | exact vi3 (by omega) (by decide)) rfl (fun h42 => ?_) (fun h42 => ?_)
      · skip
        try simp +decide only [mi0, mi1 (n := s) (by omega)] at h42 ⊢
        refine zz_i ok rfl (by and_intros <;> first | trivial | exact vi0 (by decide) (by decide) | exact vi1 (by omega) (by decide) | exact vi2 (by omega) (by decide) | exact vi3 (by omega) (by decide)) rfl rfl ?_
        exact zz_pq h (by simp [m_setState, nsv, zz_ixn (show s < 2147483648 by omega), mi1 (n := s) (by omega), h4, h13, h42]) (by simp [m_setState, nsv, zz_ixn (show s < 2147483648 by omega), mi1 (n := s) (by omega), h4, h13, h42])
      · skip
        try simp +decide only [mi0, mi1 (n := s) (by omega)] at h42 ⊢
        refine zz_i ok rfl trivial rfl rfl ?_
        exact zz_pq h (by simp [m_setState, nsv, zz_ixn (show s < 2147483648 by omega), mi1 (n := s) (by omega), h4, h13, h42]) (by simp [m_setState, nsv, zz_ixn (show s < 2147483648 by omega), mi1 (n := s) (by omega), h4, h13, h42])
theorem sp_Mo_setLink {G : zG} {post : Option zV → zM → Prop} {M : zM} {a b u : Int32} (hG : zz_go G) (h : post (some (.inl (m_setLink M a b u).1)) (m_setLink M a b u).2) : zz_T G md_Mo_setLink [.inr (.inr (6, 0, 0)), .inl a, .inl b, .inl u] M post := by
  refine en_Mo_setLink hG rfl (fun Z ok => ?_)
  refine zz_cS ok rfl trivial rfl lk_Mo_54 ca_Mo_isServer rfl rfl rfl (sp_Mo_isServer hG ?_)
  try simp +decide only [mi0, mi1 (n := s) (by omega), mi1 (n := v) (by omega), mi2 (a := s) (b := v) (by omega) (by omega), mi2 (a := v) (b := s) (by omega) (by omega)]
  refine zz_b ok rfl trivial rfl (fun h4 => ?_) (fun h4 => ?_)
  · skip
    try simp +decide only [mi0, mi1 (n := s) (by omega), mi1 (n := v) (by omega), mi2 (a := s) (b := v) (by omega) (by omega), mi2 (a := v) (b := s) (by omega) (by omega)] at h4 ⊢
    have h4 := wi_of h4
    refine zz_i ok rfl trivial rfl rfl ?_
    exact zz_pq h (by simp [m_setLink, nsv, h4]) (by simp [m_setLink, nsv, h4])
  · skip
    try simp +decide only [mi0, mi1 (n := s) (by omega), mi1 (n := v) (by omega), mi2 (a := s) (b := v) (by omega) (by omega), mi2 (a := v) (b := s) (by omega) (by omega)] at h4 ⊢
    have h4 := wi_nof h4
    obtain ⟨s, hs, rfl⟩ := ni_w (N := 4) (by decide) h4.1 h4.2
    refine zz_cS ok rfl trivial rfl lk_Mo_54 ca_Mo_isServer rfl rfl rfl (sp_Mo_isServer hG ?_)
    try simp +decide only [mi0, mi1 (n := s) (by omega), mi1 (n := v) (by omega), mi2 (a := s) (b := v) (by omega) (by omega), mi2 (a := v) (b := s) (by omega) (by omega)]
    refine zz_b ok rfl trivial rfl (fun h11 => ?_) (fun h11 => ?_)
    · skip
      try simp +decide only [mi0, mi1 (n := s) (by omega), mi1 (n := v) (by omega), mi2 (a := s) (b := v) (by omega) (by omega), mi2 (a := v) (b := s) (by omega) (by omega)] at h11 ⊢
      have h11 := wi_of h11
      refine zz_i ok rfl trivial rfl rfl ?_
      exact zz_pq h (by simp [m_setLink, nsv, h4, h11]) (by simp [m_setLink, nsv, h4, h11])
    · skip
      try simp +decide only [mi0, mi1 (n := s) (by omega), mi1 (n := v) (by omega), mi2 (a := s) (b := v) (by omega) (by omega), mi2 (a := v) (b := s) (by omega) (by omega)] at h11 ⊢
      have h11 := wi_nof h11
      obtain ⟨v, hv, rfl⟩ := ni_w (N := 4) (by decide) h11.1 h11.2
      refine zz_b ok rfl trivial rfl (fun h16 => ?_) (fun h16 => ?_)
      · skip
        try simp +decide only [mi0, mi1 (n := s) (by omega), mi1 (n := v) (by omega), mi2 (a := s) (b := v) (by omega) (by omega), mi2 (a := v) (b := s) (by omega) (by omega)] at h16 ⊢
        refine zz_i ok rfl trivial rfl rfl ?_
        exact zz_pq h (by simp [m_setLink, nsv, h4, h11, h16]) (by simp [m_setLink, nsv, h4, h11, h16])
      · skip
        try simp +decide only [mi0, mi1 (n := s) (by omega), mi1 (n := v) (by omega), mi2 (a := s) (b := v) (by omega) (by omega), mi2 (a := v) (b := s) (by omega) (by omega)] at h16 ⊢
        refine zz_b ok rfl (by and_intros <;> first | trivial | exact vi0 (by decide) (by decide) | exact vi1 (by omega) (by decide) | exact vi2 (by omega) (by decide) | exact vi3 (by omega) (by decide)) rfl (fun h51 => ?_) (fun h51 => ?_)
        · skip
          try simp +decide only [mi0, mi1 (n := s) (by omega), mi1 (n := v) (by omega), mi2 (a := s) (b := v) (by omega) (by omega), mi2 (a := v) (b := s) (by omega) (by omega)] at h51 ⊢
          subst h51
          refine zz_b ok rfl (by and_intros <;> first | trivial | exact vi0 (by decide) (by decide) | exact vi1 (by omega) (by decide) | exact vi2 (by omega) (by decide) | exact vi3 (by omega) (by decide)) rfl (fun h73 => ?_) (fun h73 => ?_)
          · skip
            try simp +decide only [mi0, mi1 (n := s) (by omega), mi1 (n := v) (by omega), mi2 (a := s) (b := v) (by omega) (by omega), mi2 (a := v) (b := s) (by omega) (by omega)] at h73 ⊢
            skip
            refine zz_i ok rfl (by and_intros <;> first | trivial | exact vi0 (by decide) (by decide) | exact vi1 (by omega) (by decide) | exact vi2 (by omega) (by decide) | exact vi3 (by omega) (by decide)) rfl rfl ?_
            exact zz_pq h (by simp +decide [m_setLink, nsv, h4, h11, h16, zz_ixn (show s < 2147483648 by omega), zz_ixn (show v < 2147483648 by omega), mi2 (a := s) (b := v) (by omega) (by omega)]) (by simp +decide [m_setLink, nsv, h4, h11, h16, zz_ixn (show s < 2147483648 by omega), zz_ixn (show v < 2147483648 by omega), mi2 (a := s) (b := v) (by omega) (by omega), mi2 (a := v) (b := s) (by omega) (by omega)])
          · skip
            exact absurd rfl h73
        · skip
          try simp +decide only [mi0, mi1 (n := s) (by omega), mi1 (n := v) (by omega), mi2 (a := s) (b := v) (by omega) (by omega), mi2 (a := v) (b := s) (by omega) (by omega)] at h51 ⊢
          refine zz_b ok rfl (by and_intros <;> first | trivial | exact vi0 (by decide) (by decide) | exact vi1 (by omega) (by decide) | exact vi2 (by omega) (by decide) | exact vi3 (by omega) (by decide)) rfl (fun h73 => ?_) (fun h73 => ?_)
          · skip
            exact absurd h73 h51
          · skip
            try simp +decide only [mi0, mi1 (n := s) (by omega), mi1 (n := v) (by omega), mi2 (a := s) (b := v) (by omega) (by omega), mi2 (a := v) (b := s) (by omega) (by omega)] at h73 ⊢
            skip
            refine zz_i ok rfl (by and_intros <;> first | trivial | exact vi0 (by decide) (by decide) | exact vi1 (by omega) (by decide) | exact vi2 (by omega) (by decide) | exact vi3 (by omega) (by decide)) rfl rfl ?_
            exact zz_pq h (by simp +decide [m_setLink, nsv, h4, h11, h16, zz_ixn (show s < 2147483648 by omega), zz_ixn (show v < 2147483648 by omega), mi2 (a := s) (b := v) (by omega) (by omega)]) (by simp +decide [m_setLink, nsv, h4, h11, h16, zz_ixn (show s < 2147483648 by omega), zz_ixn (show v < 2147483648 by omega), mi2 (a := s) (b := v) (by omega) (by omega), mi2 (a := v) (b := s) (by omega) (by omega), h51])
