theorem copy47 {v : VS} {n W : Nat} (hv : IV n W v) (w : VS) (hw : NZ w) : f_X8_copy_47 smN (w, v) 0 = some (sV_week (sV_names (sV_people (sV_mem (sV_here w (gV_here v)) (gV_mem v)) (gV_people v)) (gV_names v)) (gV_week v), v) := by
  unfold f_X8_copy_47
  have hz := hv.nz
  have e4 : va_cpy (gV_mem v) (gV_mem w) 0 0 64 = gV_mem v := cpy0 (fun j h => ⟨hz.2 j h, hw.2 j h⟩)
  have e5 : cpT (gV_here v) (gV_here w) 8 = gV_here v := by
    funext j
    simp only [cpT]
    split
    · rfl
    · rw [(hz.1 j (by omega)).2.2.2, (hw.1 j (by omega)).2.2.2]
  have e0 : sV_here w (cpT (gV_here v) (gV_here w) 0) = w := by rw [cpT_0]
  refine lq2_inv (fun i a b => a = (sV_here w (cpT (gV_here v) (gV_here w) i), v) ∧ b = nI i) (fun o => o = some (sV_week (sV_names (sV_people (sV_mem (sV_here w (gV_here v)) (gV_mem v)) (gV_people v)) (gV_names v)) (gV_week v), v)) 8 ?_ smN _ _ (smN_gt (by omega)) ⟨by rw [e0], rfl⟩
  rintro i a b hi ⟨rfl, rfl⟩
  unfold b_X8_copy_47
  rcases Nat.lt_or_ge i 8 with h | h
  · left
    refine ⟨(sV_here w (cpT (gV_here v) (gV_here w) (i + 1)), v), nI (i + 1), h, ⟨rfl, rfl⟩, fun k => ?_⟩
    have hb : vp_nar .boolean (gV_here v i) = gV_here v i := by
      rcases hv.he h with g | g <;> rw [g] <;> decide
    rw [icl (by omega), ck_ok h (by decide), ck_ok h (by decide), if_neg (by rw [l8, ile (by decide) (by omega)]; omega), Option.bind_some, i1, ← cpT_s, hb]
  · right
    obtain rfl : i = 8 := by omega
    refine ⟨_, rfl, fun k => ?_⟩
    rw [if_pos (by decide), Option.bind_some, Option.bind_some, cl0, cl64, e5, e4]
theorem copy_X {u v : VS} {n W : Nat} (hu : NZ u) (hv : IV n W v) : f_X8_copy (u, v) = some (v, v) := by
  have hz := hv.nz
  have e1 : va_cpy (gV_kind v) (gV_kind u) 0 0 8 = gV_kind v := cpy0 (fun j h => ⟨(hz.1 j h).1, (hu.1 j h).1⟩)
  have e2 : va_cpy (gV_fig v) (gV_fig u) 0 0 8 = gV_fig v := cpy0 (fun j h => ⟨(hz.1 j h).2.1, (hu.1 j h).2.1⟩)
  have e3 : va_cpy (gV_owed v) (gV_owed u) 0 0 8 = gV_owed v := cpy0 (fun j h => ⟨(hz.1 j h).2.2.1, (hu.1 j h).2.2.1⟩)
  have hw : NZ (sV_owed (sV_fig (sV_kind u (gV_kind v)) (gV_fig v)) (gV_owed v)) := ⟨fun p hp => ⟨(hz.1 p hp).1, (hz.1 p hp).2.1, (hz.1 p hp).2.2.1, (hu.1 p hp).2.2.2⟩, hu.2⟩
  have h9 := copy47 hv _ hw
  unfold f_X8_copy
  rw [Option.bind_some, Option.bind_some, Option.bind_some, cl0, cl8]
  dsimp only [gV_kind, gV_fig, gV_owed, gV_here, gV_mem, gV_people, gV_names, gV_week, sV_kind, sV_fig, sV_owed, sV_here, sV_mem, sV_people, sV_names, sV_week] at e1 e2 e3 h9 ⊢
  rw [e1, e2, e3, h9]
