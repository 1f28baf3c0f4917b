section WR
variable {d : Int} {n s : Nat} {Mc Mm : zM} {a b c dur key val : Int32}
theorem Ok_up {n' : Nat} {f : Nat → Int32} (h : Ok d n Mc f) (hn : n ≤ n') : Ok d n' Mc f := ⟨⟨h.1.1, Vn_up h.1.2 hn⟩, h.2.1, h.2.2⟩
theorem ha_ne (hV : Vn d n (Mm.1 (20, 0, 0))) (hD : yD d Mc Mm) (hs : s < 5) (hh : m_ha Mm s = true) : sf_act (al (Mm.1 (20, 0, 0))) s ∧ ¬ Mm.1 (20, 0, 0) (61 + s) = 0 := by
  have ha := (ho_act hV hD hs hh).1
  refine ⟨ha, fun z => ?_⟩
  have := ha.1
  rw [al4 _ hs, z, n_0] at this
  omega
theorem wr_main (h : Ok d n Mc (Mm.1 (20, 0, 0))) (hD : yD d Mc Mm) (hs : s < 5) : (c_wr Mc s key val).1 = (m_wr Mm s key val).1 ∧ Ok d n (c_wr Mc s key val).2 ((m_wr Mm s key val).2.1 (20, 0, 0)) := by
  have e1 := b_ho h.1.1 h.1.2 hD hs
  have er : rn Mc 0 s = mn Mm (51 + s) := by unfold rn mn q; rw [(h.1.1.2.2.2.1 s hs).1]
  have l2 : mn Mm (51 + s) ≤ 40 := (Vn_len h.1.2 hs).2
  unfold c_wr m_wr
  rw [e1]
  by_cases hh : m_ha Mm s = false
  · rw [if_pos hh, if_pos hh]; exact ⟨rfl, h⟩
  · rw [if_neg hh, if_neg hh]
    by_cases hf : mn Mm (51 + s) = 40
    · rw [if_pos (by rw [zz_rl5 (by omega), er]; omega), if_pos hf]; exact ⟨rfl, h⟩
    · rw [if_neg (by rw [zz_rl5 (by omega), er]; omega), if_neg hf]
      obtain ⟨ha, hl0⟩ := ha_ne h.1.2 hD hs (by simpa using hh)
      obtain ⟨o1, o2, o3, o4⟩ := ap_main (key := key) (val := val) h hD hs ha (by omega)
      obtain ⟨p0, p1, p2, p3, p4⟩ := apf_0 (f := Mm.1 (20, 0, 0)) (m := mn Mm (51 + s)) (t := q Mm (61 + s)) (k := key) (v := val) (st := m_st Mm s) hs
      rw [← m_w0_f] at p0 p1 p2 p3 p4
      have fo : ∀ i, ¬ i = 51 + s → ¬ (476 + 160 * s + 4 * mn Mm (51 + s) ≤ i ∧ i < 476 + 160 * s + 4 * mn Mm (51 + s) + 4) → (m_w0 Mm s key val).1 (20, 0, 0) i = Mm.1 (20, 0, 0) i := fun i b1 b2 => by rw [m_w0_f]; exact apf_o b1 b2
      have hD1 : yD d (lo_app Mc 0 s (rn Mc 0 s) (Mc.1 (3, 0, s) 7) key val (c_la Mc s)) (m_w0 Mm s key val) := by
        refine yD_c hD ?_ ?_
        · exact (fr_add (M := Mc) fr_rfl).2 (4, 0, 0) 0 rfl
        · exact (mfr_s (mfr_s (mfr_s (mfr_s (mfr_s (M := Mm) mfr_rfl))))).2 (6, 0, 0) 3 (by decide)
      obtain ⟨w1, w2, w3, w4, w5⟩ := ws_loop (t := q Mm (61 + s)) (cb := Mc.1 (0, 0, s) 1) o1 hD1 hs o2 (fo _ (by omega) (by omega)) (by rw [(h.1.1.2.2.2.1 s hs).2.1]; exact (fo _ (by omega) (by omega)).symm) 5 (Nat.le_refl _)
      have eX : c_wX Mc s key val = zz_it (c_w1 s (Mc.1 (0, 0, s) 1)) 5 (lo_app Mc 0 s (rn Mc 0 s) (Mc.1 (3, 0, s) 7) key val (c_la Mc s), 1) := rfl
      have eY : m_wX Mm s key val = zz_it (m_w1 s (q Mm (61 + s))) 5 (m_w0 Mm s key val, 1) := rfl
      rw [← eX] at w1 w2 w3
      rw [← eY] at w1 w2 w3 w4 w5
      clear eX eY
      rw [w3]
      generalize c_wX Mc s key val = Xc at *
      generalize m_wX Mm s key val = Xm at *
      have cl := sf_cnt_le (WG (m_w0 Mm s key val) s (q Mm (61 + s))) 5
      by_cases c3 : Xm.2 < 3
      · rw [if_pos c3, if_pos c3]; exact ⟨rfl, w1⟩
      · rw [if_neg c3, if_neg c3]
        dsimp only
        obtain ⟨b1, b2, b3⟩ := w5
        obtain ⟨s1, s2, s3, s4⟩ := b2 s hs (Or.inl rfl)
        generalize (m_w0 Mm s key val).1 (20, 0, 0) = f1 at *
        have m1 : fl f1 (51 + s) = mn Mm (51 + s) + 1 := fl_n p4 (by omega)
        have N0 : an (Xm.1.1 (20, 0, 0)) 0 s = mn Mm (51 + s) + 1 := by rw [an0 _ hs, fl_c s2, m1]
        have eN : an (Xm.1.1 (20, 0, 0)) 0 s = an f1 0 s := by rw [an0 _ hs, an0 _ hs]; exact fl_c s2
        have ca : sf_act (al (Xm.1.1 (20, 0, 0))) s := by
          unfold sf_act at o2 ⊢
          rw [al4 _ hs, al0, al5 _ hs] at o2 ⊢
          rw [b1 _ (by omega), b1 _ (by omega), b1 _ (by omega)]
          exact o2
        have clt : sf_lt (al (Xm.1.1 (20, 0, 0))) (an (Xm.1.1 (20, 0, 0))) s = al (Xm.1.1 (20, 0, 0)) 4 s := by
          rw [al4 _ hs, b1 _ (by omega), ← al4 f1 hs, ← o3]
          exact sf_lt_c eN (fun j => alE (by omega) (fun hj => s4 j hj))
        have c5 : an (Xm.1.1 (20, 0, 0)) 0 5 < an (Xm.1.1 (20, 0, 0)) 0 s := by
          rw [eN, an5, fl_c (b1 1436 (by omega)), ← an5]; exact o4
        have gs : WG (m_w0 Mm s key val) s (q Mm (61 + s)) s = false := by simp [WG]
        have mj : sf_maj (fun v => an (Xm.1.1 (20, 0, 0)) 0 v = an (Xm.1.1 (20, 0, 0)) 0 s ∧ ∀ j, j < 4 * an (Xm.1.1 (20, 0, 0)) 0 s → al (Xm.1.1 (20, 0, 0)) (10 + v) j = al (Xm.1.1 (20, 0, 0)) (10 + s) j) := by
          refine ⟨fun u => decide (u = s) || WG (m_w0 Mm s key val) s (q Mm (61 + s)) u, fun u hu hp => ?_, ?_⟩
          · by_cases z : u = s
            · subst z; exact ⟨rfl, fun j _ => rfl⟩
            · have g : WG (m_w0 Mm s key val) s (q Mm (61 + s)) u = true := by simpa [z] using hp
              obtain ⟨g1, g2⟩ := b3 u hu g
              refine ⟨?_, fun j hj => ?_⟩
              · rw [N0, an0 _ hu, ← m1]
                unfold fl
                rw [g1]
              · rw [N0] at hj
                rw [alL _ (by omega) (by omega), alL _ (by omega) (by omega), g2 j (by omega), s4 j (by omega)]
          · rw [cnt_or gs, if_pos hs]
            rw [w4, show (3 : Int32) = nI 3 from rfl, ni_ltn (by omega) (by omega)] at c3
            omega
        obtain ⟨r1, r2⟩ := cm_main (m := mn Mm (51 + s)) (st := m_st Mm s) (dd := mn Mm (71 + s)) w1 hs ca clt c5 mj (by rw [fl_c s2, m1]) (by rw [show 476 + 160 * s + 4 * mn Mm (51 + s) + 3 = 476 + 160 * s + (4 * mn Mm (51 + s) + 3) by omega, s4 _ (by omega), ← p3]; exact congrArg f1 (by omega)) (by show fl (Xm.1.1 (20, 0, 0)) (71 + s) = _; rw [fl_c (b1 (71 + s) (by omega)), fl_c (fo (71 + s) (by omega) (by omega))]; rfl)
        exact ⟨r1, r2⟩
theorem dur_in {x : Int32} (h : ¬ (x < 1 ∨ 100 < x)) : 1 ≤ x.toInt ∧ x.toInt ≤ 100 := by
  have e : (100 : Int32).toInt = 100 := by decide
  rw [ni_lt, ni_lt, n_1, e] at h
  omega
theorem ru_i (M : zM) (s : Nat) : (m_ru M s = false) = (¬ M.1 (20, 0, 0) (6 + s) = 0) := by simp [m_ru]
theorem x_acquire (h : Ok d n Mc (Mm.1 (20, 0, 0))) (hD : yD d Mc Mm) (hn : n < 1000000) : (L_acquire Mc a dur).1 = (m_acquire Mm a dur).1 ∧ Ok d (n + 1) (L_acquire Mc a dur).2 ((m_acquire Mm a dur).2.1 (20, 0, 0)) := by
  unfold L_acquire m_acquire
  by_cases h1 : nsv a ∨ dur < 1 ∨ 100 < dur
  · rw [if_pos h1, if_pos h1]; exact ⟨rfl, Ok_up h (by omega)⟩
  · have hs := nsv_ix (fun x => h1 (Or.inl x))
    rw [if_neg h1, if_neg h1, (h.1.1.2.1 _ hs).2.1, b_ho h.1.1 h.1.2 hD hs]
    simp only [ru_i]
    by_cases h2 : ¬ Mm.1 (20, 0, 0) (6 + zz_ix a) = 0 ∨ m_ha Mm (zz_ix a) = true
    · rw [if_pos h2, if_pos h2]; exact ⟨rfl, Ok_up h (by omega)⟩
    · rw [if_neg h2, if_neg h2]
      exact el_main h.1 h.2.2 hD hs hn (dur_in (fun x => h1 (Or.inr x)))
theorem x_renew (h : Ok d n Mc (Mm.1 (20, 0, 0))) (hD : yD d Mc Mm) : (L_renew Mc a dur).1 = (m_renew Mm a dur).1 ∧ Ok d n (L_renew Mc a dur).2 ((m_renew Mm a dur).2.1 (20, 0, 0)) := by
  unfold L_renew m_renew
  by_cases h1 : nsv a ∨ dur < 1 ∨ 100 < dur
  · rw [if_pos h1, if_pos h1]; exact ⟨rfl, h⟩
  · have hs := nsv_ix (fun x => h1 (Or.inl x))
    rw [if_neg h1, if_neg h1, b_ho h.1.1 h.1.2 hD hs]
    by_cases h2 : m_ha Mm (zz_ix a) = false
    · rw [if_pos h2, if_pos h2]; exact ⟨rfl, h⟩
    · rw [if_neg h2, if_neg h2]
      exact rn_main h hD hs (dur_in (fun x => h1 (Or.inr x))) (by simpa using h2)
theorem x_giveUp (h : Ok d n Mc (Mm.1 (20, 0, 0))) (hD : yD d Mc Mm) : (L_giveUp Mc a).1 = (m_giveUp Mm a).1 ∧ Ok d n (L_giveUp Mc a).2 ((m_giveUp Mm a).2.1 (20, 0, 0)) := by
  unfold L_giveUp m_giveUp
  by_cases h1 : nsv a
  · rw [if_pos h1, if_pos h1]; exact ⟨rfl, h⟩
  · have hs := nsv_ix h1
    rw [if_neg h1, if_neg h1, b_ho h.1.1 h.1.2 hD hs]
    by_cases h2 : m_ha Mm (zz_ix a) = false
    · rw [if_pos h2, if_pos h2]; exact ⟨rfl, h⟩
    · rw [if_neg h2, if_neg h2]
      dsimp only
      exact gu_main h hs
theorem ix_ne {x y : Int32} (h1 : ¬ nsv x) (h2 : ¬ nsv y) (h : ¬ x = y) : ¬ zz_ix y = zz_ix x := by
  simp only [nsv, not_or] at h1 h2
  obtain ⟨s, hs, rfl⟩ := ni_w (N := 4) (by decide) h1.1 h1.2
  obtain ⟨u, hu, rfl⟩ := ni_w (N := 4) (by decide) h2.1 h2.2
  rw [zz_ixn (by omega), zz_ixn (by omega)]
  intro z
  exact h (by rw [z])
theorem x_handOver (h : Ok d n Mc (Mm.1 (20, 0, 0))) (hD : yD d Mc Mm) (hn : n < 1000000) : (L_handOver Mc a b dur).1 = (m_handOver Mm a b dur).1 ∧ Ok d (n + 1) (L_handOver Mc a b dur).2 ((m_handOver Mm a b dur).2.1 (20, 0, 0)) := by
  unfold L_handOver m_handOver
  by_cases h1 : nsv a ∨ nsv b ∨ a = b ∨ dur < 1 ∨ 100 < dur
  · rw [if_pos h1, if_pos h1]; exact ⟨rfl, Ok_up h (by omega)⟩
  · have hs := nsv_ix (fun x => h1 (Or.inl x))
    have hv := nsv_ix (fun x => h1 (Or.inr (Or.inl x)))
    have hne := ix_ne (fun x => h1 (Or.inl x)) (fun x => h1 (Or.inr (Or.inl x))) (fun x => h1 (Or.inr (Or.inr (Or.inl x))))
    have hd := dur_in (fun x => h1 (Or.inr (Or.inr (Or.inr x))))
    rw [if_neg h1, if_neg h1, b_ho h.1.1 h.1.2 hD hs]
    by_cases h2 : m_ha Mm (zz_ix a) = false
    · rw [if_pos (Or.inl h2), if_pos (Or.inl h2)]; exact ⟨rfl, Ok_up h (by omega)⟩
    · obtain ⟨ha, hl0⟩ := ha_ne h.1.2 hD hs (by simpa using h2)
      have eac : c_ac Mc (zz_ix a) (zz_ix b) = (m_re Mm (zz_ix a) (zz_ix b) && decide (¬ q Mm (61 + zz_ix a) < q Mm (36 + zz_ix b))) := by
        unfold c_ac
        rw [b_re h.1.1 hs hv, (h.1.1.2.1 _ hs).2.2.2.2.2.1, (h.1.1.2.1 _ hv).2.2.1, if_neg hl0]
      rw [eac, (h.1.1.2.2.2.1 _ hs).2.1]
      by_cases h3 : m_re Mm (zz_ix a) (zz_ix b) = false
      · rw [if_pos (Or.inr (by rw [h3]; rfl)), if_pos (Or.inr (Or.inl h3))]; exact ⟨rfl, Ok_up h (by omega)⟩
      · have h3' : m_re Mm (zz_ix a) (zz_ix b) = true := by simpa using h3
        by_cases h4 : q Mm (61 + zz_ix a) < q Mm (36 + zz_ix b)
        · rw [if_pos (Or.inr (by rw [decide_eq_false (fun z => z h4), Bool.and_false])), if_pos (Or.inr (Or.inr h4))]; exact ⟨rfl, Ok_up h (by omega)⟩
        · rw [if_neg (by
            rw [h3', decide_eq_true h4]
            rintro (z | z)
            · exact h2 z
            · cases z), if_neg (by
            rintro (z | z | z)
            · exact h2 z
            · exact h3 z
            · exact h4 z)]
          have o1 := sh_main h hs hv hne ha rfl h4 rfl
          have o2 := (gu_main (Mm := m_cl Mm (zz_ix a) (zz_ix b) (q Mm (61 + zz_ix a)) (q Mm (56 + zz_ix a))) o1 hs).2
          refine el_main o2.1 o2.2.2 (yD_c hD ?_ ?_) hv hn hd
          · exact (fr_ab (fr_sh (M := Mc) fr_rfl)).2 (4, 0, 0) 0 rfl
          · exact (mfr_gu (mfr_cl (M := Mm) mfr_rfl)).2 (6, 0, 0) 3 (by decide)
theorem x_write (h : Ok d n Mc (Mm.1 (20, 0, 0))) (hD : yD d Mc Mm) : (L_write Mc a b c).1 = (m_write Mm a b c).1 ∧ Ok d n (L_write Mc a b c).2 ((m_write Mm a b c).2.1 (20, 0, 0)) := by
  unfold L_write m_write
  by_cases h1 : nsv a ∨ (b < 0 ∨ 7 < b) ∨ (c < 0 ∨ 999 < c)
  · rw [if_pos h1, if_pos h1]; exact ⟨rfl, h⟩
  · rw [if_neg h1, if_neg h1]
    exact wr_main h hD (nsv_ix (fun x => h1 (Or.inl x)))
theorem x_barrier (h : Ok d n Mc (Mm.1 (20, 0, 0))) (hD : yD d Mc Mm) : (L_barrier Mc a).1 = (m_barrier Mm a).1 ∧ Ok d n (L_barrier Mc a).2 ((m_barrier Mm a).2.1 (20, 0, 0)) := by
  unfold L_barrier m_barrier
  by_cases h1 : nsv a
  · rw [if_pos h1, if_pos h1]; exact ⟨rfl, h⟩
  · rw [if_neg h1, if_neg h1]
    exact wr_main h hD (nsv_ix h1)
end WR
