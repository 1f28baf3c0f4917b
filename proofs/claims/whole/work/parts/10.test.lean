theorem sp_Ro_get {G : zG} {post : Option zV → zM → Prop} {M : zM} {w j : Nat} {row col : Int32} (hG : zz_go G) (h : post (some (.inl (if row < 0 ∨ ¬ row < M.1 (1, w, j) 1 ∨ col < 0 ∨ ¬ col < 4 then -1000 else M.1 (7, w, j) (zz_ix (row * 4 + col))))) M) : zz_T G md_Ro_get [.inr (.inr (1, w, j)), .inl row, .inl col] M post := by
  refine en_Ro_get hG rfl (fun Z ok => ?_)
  refine zz_b ok rfl trivial rfl (fun h1 => ?_) (fun h1 => ?_)
  · refine zz_i ok rfl trivial rfl rfl ?_
    exact zz_pq h (by simp [h1]) rfl
  refine zz_b ok rfl trivial rfl (fun h2 => ?_) (fun h2 => ?_)
  · refine zz_b ok rfl trivial rfl (fun h3 => ?_) (fun h3 => ?_)
    · refine zz_i ok rfl trivial rfl rfl ?_
      exact zz_pq h (by simp [h1, h2, h3]) rfl
    · refine zz_b ok rfl trivial rfl (fun h4 => ?_) (fun h4 => ?_)
      · refine zz_i ok rfl ?_ rfl rfl ?_
        · sorry
        · exact zz_pq h (by simp [h1, h2, h3, h4]) rfl
      · refine zz_i ok rfl trivial rfl rfl ?_
        exact zz_pq h (by simp [h1, h2, h3, h4]) rfl
  · refine zz_i ok rfl trivial rfl rfl ?_
    exact zz_pq h (by simp [h1, h2]) rfl
theorem i_vc : Claimed_1_1 ∧ Claimed_1_2 := sorry
