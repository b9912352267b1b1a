/-! valleys by lot -/
def zn (z : Int32) : Int32 := z * (1664525 : Int32) + (1013904223 : Int32)
def dv (z : Int32) : Int32 := ((z &&& (2147483647 : Int32)) / (256 : Int32)) - ((z &&& (2147483647 : Int32)) / (256 : Int32)) / (100 : Int32) * (100 : Int32)
theorem dv_in (z : Int32) : ∃ v, v ≤ 99 ∧ dv z = nI v := by
  unfold dv
  have h := pk_and z (m := (2147483647 : Int32)) 31 (by decide)
  rw [h, show (256 : Int32) = nI 256 from rfl, show (100 : Int32) = nI 100 from rfl]
  have h1 : z.toBitVec.toNat % 2 ^ 31 < 2 ^ 31 := Nat.mod_lt _ (by decide)
  generalize z.toBitVec.toNat % 2 ^ 31 = m at h1 ⊢
  rw [pk_div h1 (by decide) (by decide), pk_rem (by omega) (by decide) (by decide)]
  exact ⟨m / 256 % 100, by omega, rfl⟩
def d1S (a : Nat) (s : VS × Int32) : Nat → VS × Int32
  | 0 => s
  | b + 1 => if a = b then d1S a s b else (sV_mem (d1S a s b).1 (upd (gV_mem (d1S a s b).1) (8 * a + b) (dv (zn (d1S a s b).2))), zn (d1S a s b).2)
def d2S (n : Nat) (s : VS × Int32) : Nat → VS × Int32
  | 0 => s
  | a + 1 => d1S a (d2S n s a) n
theorem IV_d1S {n W a : Nat} {s : VS × Int32} (h : IV n W s.1) (ha : a < 8) : ∀ b, b ≤ 8 → IV n W (d1S a s b).1 := by
  intro b
  induction b with
  | zero => intro _; exact h
  | succ b ih =>
    intro hb
    simp only [d1S]
    split
    · exact ih (by omega)
    · exact IV_mem (ih (by omega)) (by omega) (dv_in _)
theorem IV_d2S {n W : Nat} {s : VS × Int32} (h : IV n W s.1) : ∀ a, a ≤ n → IV n W (d2S n s a).1 := by
  intro a
  induction a with
  | zero => intro _; exact h
  | succ a ih =>
    intro ha
    have hn := h.n8
    exact IV_d1S (ih (by omega)) (by omega) n (by omega)
theorem dr_X (u : MS) : f_X3_drawBelowHundred u = some (dv (zn (gM_z u)), sM_z u (zn (gM_z u))) := rfl
theorem dr_M (d : DS) : f_X11_drawn d (100 : Int32) = some (dv (zn (gD_seed d)), sD_seed d (zn (gD_seed d))) := by
  unfold f_X11_drawn dz
  rw [Option.bind_some, if_neg (by decide)]
  rfl
theorem dr_X' (u : MS) (w : VS) (z : Int32) : f_X3_drawBelowHundred (sM_z (sM_then u w) z) = some (dv (zn z), sM_z (sM_then u w) (zn z)) := rfl
theorem dr_M' (d : DS) (r : Nat → Int32) (z : Int32) : f_X11_drawn (sD_seed (sD_m d r) z) (100 : Int32) = some (dv (zn z), sD_seed (sD_m d r) (zn z)) := dr_M _
theorem tz_X (u : MS) (w w' : VS) (z : Int32) : sM_then (sM_z (sM_then u w) z) w' = sM_z (sM_then u w') z := rfl
theorem tz_M (d : DS) (r r' : Nat → Int32) (z : Int32) : sD_m (sD_seed (sD_m d r) z) r' = sD_seed (sD_m d r') z := rfl
theorem gz_X (u : MS) (w : VS) (z : Int32) : gM_then (sM_z (sM_then u w) z) = w := rfl
theorem gz_M (d : DS) (r : Nat → Int32) (z : Int32) : gD_m (sD_seed (sD_m d r) z) = r := rfl
theorem d1S_n {a b : Nat} (s : VS × Int32) (g : ¬ a = b) : d1S a s (b + 1) = (sV_mem (d1S a s b).1 (upd (gV_mem (d1S a s b).1) (8 * a + b) (dv (zn (d1S a s b).2))), zn (d1S a s b).2) := by
  simp only [d1S, if_neg g]
theorem d1S_p {a b : Nat} (s : VS × Int32) (g : a = b) : d1S a s (b + 1) = d1S a s b := by
  simp only [d1S, if_pos g]
theorem dm15_X {u : MS} {s : VS × Int32} {n W a : Nat} (hI : IV n W s.1) (ha : a < n) (k2 : MS → Int32 → Option MS) : f_X3_drawMemories_15 k2 smN (sM_z (sM_then u s.1) s.2) (nI a) 0 = k2 (sM_z (sM_then u (d1S a s n).1) (d1S a s n).2) (nI (a + 1)) := by
  have hn := hI.n8
  unfold f_X3_drawMemories_15
  refine lq3_inv (fun i x b c => x = sM_z (sM_then u (d1S a s i).1) (d1S a s i).2 ∧ b = nI a ∧ c = nI i) (fun o => o = k2 (sM_z (sM_then u (d1S a s n).1) (d1S a s n).2) (nI (a + 1))) n ?_ smN _ _ _ (smN_gt (by omega)) ⟨rfl, rfl, rfl⟩
  rintro i x b c hi ⟨rfl, rfl, rfl⟩
  unfold b_X3_drawMemories_15
  have hIi := IV_d1S hI (show a < 8 by omega) i (by omega)
  have e1 : gV_people (gM_then (sM_z (sM_then u (d1S a s i).1) (d1S a s i).2)) = nI n := hIi.pe
  rw [e1]
  simp (disch := omega) only [ile, ieq, i1]
  rcases Nat.lt_or_ge i n with h | h
  · left
    by_cases g : a = i
    · refine ⟨sM_z (sM_then u (d1S a s (i + 1)).1) (d1S a s (i + 1)).2, nI a, nI (i + 1), h, ⟨rfl, rfl, rfl⟩, fun k => ?_⟩
      rw [if_neg (by omega), if_pos g, d1S_p s g]
    · refine ⟨sM_z (sM_then u (d1S a s (i + 1)).1) (d1S a s (i + 1)).2, nI a, nI (i + 1), h, ⟨rfl, rfl, rfl⟩, fun k => ?_⟩
      rw [if_neg (by omega), if_neg g, d1S_n s g]
      generalize d1S a s i = q
      rw [dr_X', Option.bind_some]
      show (f_X8_setMemory (gM_then (sM_z (sM_then u q.1) (zn q.2))) (nI a) (nI i) (dv (zn q.2))).bind (fun z41 => k (sM_then (sM_z (sM_then u q.1) (zn q.2)) z41) (nI a) (nI (i + 1))) = _
      rw [gz_X, sm_X _ (by omega) (by omega), Option.bind_some, tz_X]
  · right
    obtain rfl : i = n := by omega
    refine ⟨_, rfl, fun k => ?_⟩
    rw [if_pos (Nat.le_refl _)]
theorem dm_X {u : MS} {s : VS × Int32} {n W : Nat} (hI : IV n W s.1) : f_X3_drawMemories (sM_z (sM_then u s.1) s.2) = some (sM_z (sM_then u (d2S n s n).1) (d2S n s n).2) := by
  have hn := hI.n8
  unfold f_X3_drawMemories f_X3_drawMemories_2
  refine lq2_inv (fun i x b => x = sM_z (sM_then u (d2S n s i).1) (d2S n s i).2 ∧ b = nI i) (fun o => o = some (sM_z (sM_then u (d2S n s n).1) (d2S n s n).2)) n ?_ smN _ _ (smN_gt (by omega)) ⟨rfl, rfl⟩
  rintro i x b hi ⟨rfl, rfl⟩
  unfold b_X3_drawMemories_2
  have hIi := IV_d2S hI i hi
  have e1 : gV_people (gM_then (sM_z (sM_then u (d2S n s i).1) (d2S n s i).2)) = nI n := hIi.pe
  rw [e1]
  simp (disch := omega) only [ile]
  rcases Nat.lt_or_ge i n with h | h
  · left
    refine ⟨sM_z (sM_then u (d2S n s (i + 1)).1) (d2S n s (i + 1)).2, nI (i + 1), h, ⟨rfl, rfl⟩, fun k => ?_⟩
    rw [if_neg (by omega), dm15_X hIi h k]
    rfl
  · right
    obtain rfl : i = n := by omega
    refine ⟨_, rfl, fun k => ?_⟩
    rw [if_pos (Nat.le_refl _)]
def lt1 (w : VS) (n : Nat) (v : Int32) : Int32 := if v = 0 then nI (cnt w n) else ktT w n n
def ltS (u : VS) (n : Nat) (v seed : Int32) : Nat → Int32 × Int32
  | 0 => (0, seed)
  | i + 1 => ((ltS u n v seed i).1 + lt1 (wks (d2S n (u, (ltS u n v seed i).2) n).1 n 20) n v, (d2S n (u, (ltS u n v seed i).2) n).2)
theorem bl_X {u : MS} {n W k : Nat} (hI : IV n W (gM_now u)) (hW : W < 2 ^ 20) (ht : AnyV (gM_then u)) (hk : k ≤ 20) (seed v : Int32) : ∃ w z, AnyV w ∧ f_X3_byLot u (nI k) seed v = some ((ltS (gM_now u) n v seed k).1, sM_z (sM_then u w) z) := by
  have hn := hI.n8
  unfold f_X3_byLot f_X3_byLot_11
  refine lq3_inv (fun i x b c => (∃ w, AnyV w ∧ x = sM_z (sM_then u w) (ltS (gM_now u) n v seed i).2) ∧ b = (ltS (gM_now u) n v seed i).1 ∧ c = nI i) (fun o => ∃ w z, AnyV w ∧ o = some ((ltS (gM_now u) n v seed k).1, sM_z (sM_then u w) z)) k ?_ smN _ _ _ (smN_gt (by omega)) ⟨⟨gM_then u, ht, rfl⟩, rfl, rfl⟩
  rintro i x b c hi ⟨⟨w, hw, rfl⟩, rfl, rfl⟩
  unfold b_X3_byLot_11
  simp (disch := omega) only [ile, i1]
  rcases Nat.lt_or_ge i k with h | h
  · left
    generalize hs : ltS (gM_now u) n v seed i = s
    have e1 : f_X3_startAgain (sM_z (sM_then u w) s.2) = some (sM_z (sM_then u (gM_now u)) s.2) := sa_X (u := sM_z (sM_then u w) s.2) hI hw
    have e2 : f_X3_drawMemories (sM_z (sM_then u (gM_now u)) s.2) = some (sM_z (sM_then u (d2S n (gM_now u, s.2) n).1) (d2S n (gM_now u, s.2) n).2) := dm_X (u := u) (s := (gM_now u, s.2)) hI
    have hId := IV_d2S (s := (gM_now u, s.2)) hI n (Nat.le_refl _)
    have hIw := IV_wks hId 20
    have e3 : f_X8_passWeeks (gM_then (sM_z (sM_then u (d2S n (gM_now u, s.2) n).1) (d2S n (gM_now u, s.2) n).2)) (20 : Int32) = some (wks (d2S n (gM_now u, s.2) n).1 n 20) := wks_X hId hW (k := 20) (by omega)
    have e4 : f_X8_countHere (gM_then (sM_then (sM_z (sM_then u (d2S n (gM_now u, s.2) n).1) (d2S n (gM_now u, s.2) n).2) (wks (d2S n (gM_now u, s.2) n).1 n 20))) = some (nI (cnt (wks (d2S n (gM_now u, s.2) n).1 n 20) n)) := ch_cnt hIw
    have e5 : f_X8_knownTogether (gM_then (sM_then (sM_z (sM_then u (d2S n (gM_now u, s.2) n).1) (d2S n (gM_now u, s.2) n).2) (wks (d2S n (gM_now u, s.2) n).1 n 20))) = some (ktT (wks (d2S n (gM_now u, s.2) n).1 n 20) n n) := kt_X hIw
    have e6 : ltS (gM_now u) n v seed (i + 1) = (s.1 + lt1 (wks (d2S n (gM_now u, s.2) n).1 n 20) n v, (d2S n (gM_now u, s.2) n).2) := by rw [← hs]; rfl
    refine ⟨sM_z (sM_then u (wks (d2S n (gM_now u, s.2) n).1 n 20)) (ltS (gM_now u) n v seed (i + 1)).2, (ltS (gM_now u) n v seed (i + 1)).1, nI (i + 1), h, ⟨⟨_, hIw.any, rfl⟩, rfl, rfl⟩, fun kk => ?_⟩
    rw [if_neg (by omega), e1, Option.bind_some, e2, Option.bind_some, e3, Option.bind_some, e4, Option.bind_some, e5, Option.bind_some, e6]
    unfold lt1
    by_cases g : v = 0
    · rw [if_pos g, if_pos g]; try rfl
    · rw [if_neg g, if_neg g]; try rfl
  · right
    obtain rfl : i = k := by omega
    refine ⟨_, ⟨w, (ltS (gM_now u) n v seed i).2, hw, rfl⟩, fun kk => ?_⟩
    rw [if_pos (Nat.le_refl _)]
theorem lo86_M {d : DS} {n W a : Nat} {s : VS × Int32} {r : Nat → Int32} {v1 v3 x4 x5 : Int32} (hI : IV n W s.1) (hR : RV s.1 r) (ha : a < n) (hp : gD_s d 0 = nI n) (k52 : DS → Int32 → Int32 → Option (Int32 × DS)) (k72 : DS → Int32 → Int32 → Int32 → Option (Int32 × DS)) : ∃ r', RV (d1S a s n).1 r' ∧ f_X11_lots_86 v1 v3 k52 k72 smN (sD_seed (sD_m d r) s.2) x4 x5 (nI a) 0 = k72 (sD_seed (sD_m d r') (d1S a s n).2) x4 x5 (nI (a + 1)) := by
  have hn := hI.n8
  unfold f_X11_lots_86
  refine lq5_inv (fun i x b c e f => (∃ r', RV (d1S a s i).1 r' ∧ x = sD_seed (sD_m d r') (d1S a s i).2) ∧ b = x4 ∧ c = x5 ∧ e = nI a ∧ f = nI i) (fun o => ∃ r', RV (d1S a s n).1 r' ∧ o = k72 (sD_seed (sD_m d r') (d1S a s n).2) x4 x5 (nI (a + 1))) n ?_ smN _ _ _ _ _ (smN_gt (by omega)) ⟨⟨r, hR, rfl⟩, rfl, rfl, rfl, rfl⟩
  rintro i x b c e f hi ⟨⟨r', h1, rfl⟩, rfl, rfl, rfl, rfl⟩
  unfold b_X11_lots_86
  have e1 : gD_s (sD_seed (sD_m d r') (d1S a s i).2) 0 = nI n := hp
  simp (disch := omega) only [ck0, cl0, e1, ile, ieq, i1]
  rcases Nat.lt_or_ge i n with h | h
  · left
    by_cases g : a = i
    · refine ⟨sD_seed (sD_m d r') (d1S a s (i + 1)).2, b, c, nI a, nI (i + 1), h, ⟨⟨r', ?_, rfl⟩, rfl, rfl, rfl, rfl⟩, fun k => ?_⟩
      · rw [d1S_p s g]; exact h1
      · rw [if_neg (by omega), if_pos g, d1S_p s g]
    · refine ⟨sD_seed (sD_m d (upd r' (35 + 8 * a + i) (dv (zn (d1S a s i).2)))) (d1S a s (i + 1)).2, b, c, nI a, nI (i + 1), h, ⟨⟨_, ?_, rfl⟩, rfl, rfl, rfl, rfl⟩, fun k => ?_⟩
      · rw [d1S_n s g]
        exact RV_mem h1 (by omega) (by omega) _
      · rw [if_neg (by omega), if_neg g, d1S_n s g]
        generalize d1S a s i = q
        rewrite [f_by, Option.bind_some, dr_M', Option.bind_some, ck_ok (by omega) (by decide), icl (by omega)]
        generalize zn q.2 = z1
        generalize dv z1 = v1
        generalize 35 + 8 * a + i = jj
        have e : ∀ (y : Int32) (D : DS) (f : Nat → Int32), D = sD_seed (sD_m d r') z1 → f = upd r' jj v1 → k (sD_m D f) b c (nI a) (nI (i + 1)) = k (sD_seed (sD_m d (upd r' jj v1)) z1) b c (nI a) (nI (i + 1)) := by
          intro y D f h1 h2
          rw [h1, h2, tz_M]
        exact e v1 _ _ rfl rfl
  · right
    obtain rfl : i = n := by omega
    refine ⟨_, ⟨r', h1, rfl⟩, fun k => ?_⟩
    rw [if_pos (Nat.le_refl _)]
theorem lo72_M {d : DS} {n W : Nat} {s : VS × Int32} {r : Nat → Int32} {v1 v3 x4 : Int32} {j : Nat} (hI : IV n W s.1) (hR : RV s.1 r) (hp : gD_s d 0 = nI n) (k52 : DS → Int32 → Int32 → Option (Int32 × DS)) : ∃ r', f_X11_lots_72 v1 v3 k52 smN (sD_seed (sD_m d r) s.2) x4 (nI j) 0 = k52 (sD_seed (sD_m d r') (d2S n s n).2) (x4 + lt1 (wks (d2S n s n).1 n 20) n v3) (nI (j + 1)) := by
  have hn := hI.n8
  unfold f_X11_lots_72
  refine lq4_inw (fun i x b c e => (∃ r', RV (d2S n s i).1 r' ∧ x = sD_seed (sD_m d r') (d2S n s i).2) ∧ b = x4 ∧ c = nI j ∧ e = nI i) (fun o => ∃ r', o = k52 (sD_seed (sD_m d r') (d2S n s n).2) (x4 + lt1 (wks (d2S n s n).1 n 20) n v3) (nI (j + 1))) n ?_ smN _ _ _ _ (smN_gt (by omega)) ⟨⟨r, hR, rfl⟩, rfl, rfl, rfl⟩
  rintro i x b c e kk hi ⟨⟨r', h1, rfl⟩, rfl, rfl, rfl⟩
  unfold b_X11_lots_72
  have e1 : gD_s (sD_seed (sD_m d r') (d2S n s i).2) 0 = nI n := hp
  have hIi := IV_d2S hI i hi
  simp (disch := omega) only [ck0, cl0, e1, ile, i1]
  rcases Nat.lt_or_ge i n with h | h
  · left
    obtain ⟨r2, g1, g2⟩ := lo86_M (v1 := v1) (v3 := v3) (x4 := b) (x5 := nI j) hIi h1 h hp k52 kk
    refine ⟨_, _, _, _, h, ⟨⟨r2, g1, rfl⟩, rfl, rfl, rfl⟩, ?_⟩
    rw [if_neg (by omega), g2]
    rfl
  · right
    obtain rfl : i = n := by omega
    obtain ⟨r2, g1, g2⟩ := wks_M (k := 20) hIi h1 (by omega)
    have hIw := IV_wks hIi 20
    have hh := hbN_256 (wks (d2S i s i).1 i 20) hn
    have e2 : f_X11_weeksOn (gD_m (sD_seed (sD_m d r') (d2S i s i).2)) (20 : Int32) = some r2 := g2
    have e3 : f_X11_hereIn (gD_m (sD_m (sD_seed (sD_m d r') (d2S i s i).2) r2)) = some (nI (hbN (wks (d2S i s i).1 i 20) i)) := hb_M hIw g1
    have e4 : f_X11_knownAll (gD_m (sD_m (sD_seed (sD_m d r') (d2S i s i).2) r2)) = some (ktT (wks (d2S i s i).1 i 20) i i) := kt_M hIw g1
    refine ⟨r2, ?_⟩
    rw [if_pos (Nat.le_refl _), e2, Option.bind_some, e3, Option.bind_some, e4, Option.bind_some, bc_M hh, Option.bind_some]
    unfold lt1 cnt
    by_cases g : v3 = 0
    · rw [if_pos g, if_pos g]; try rfl
    · rw [if_neg g, if_neg g]; try rfl
theorem lo_M {d : DS} {u : VS} {n W k : Nat} (hI : IV n W u) (hR : RV u (gD_s d)) (hk : k ≤ 20) (seed v : Int32) : ∃ r z, f_X11_lots_52 (nI k) v smN (sD_seed d seed) 0 0 = some ((ltS u n v seed k).1, sD_seed (sD_m d r) z) := by
  have hn := hI.n8
  unfold f_X11_lots_52
  refine lq3_inw (fun i x b c => (∃ r, x = sD_seed (sD_m d r) (ltS u n v seed i).2) ∧ b = (ltS u n v seed i).1 ∧ c = nI i) (fun o => ∃ r z, o = some ((ltS u n v seed k).1, sD_seed (sD_m d r) z)) k ?_ smN _ _ _ (smN_gt (by omega)) ⟨⟨gD_m d, rfl⟩, rfl, rfl⟩
  rintro i x b c kk hi ⟨⟨r, rfl⟩, rfl, rfl⟩
  unfold b_X11_lots_52
  simp (disch := omega) only [ile]
  rcases Nat.lt_or_ge i k with h | h
  · left
    have e0 : f_X11_copies (gD_s (sD_seed (sD_m d r) (ltS u n v seed i).2), gD_m (sD_seed (sD_m d r) (ltS u n v seed i).2)) = some (gD_s d, cpT (gD_s d) r 99) := copies_M _ _
    obtain ⟨r2, e1⟩ := lo72_M (d := d) (s := (u, (ltS u n v seed i).2)) (r := cpT (gD_s d) r 99) (v1 := nI k) (v3 := v) (x4 := (ltS u n v seed i).1) (j := i) hI (RV_cp r hR) (hR.pe.trans hI.pe) kk
    refine ⟨sD_seed (sD_m d r2) (ltS u n v seed (i + 1)).2, (ltS u n v seed (i + 1)).1, nI (i + 1), h, ⟨⟨r2, rfl⟩, rfl, rfl⟩, ?_⟩
    rw [if_neg (by omega), e0, Option.bind_some]
    exact e1
  · right
    obtain rfl : i = k := by omega
    rw [if_pos (Nat.le_refl _)]
    exact ⟨r, _, rfl⟩
theorem XR_z {n W : Nat} {x : XS} {d : DS} (h : XR n W x d) {u : VS} (hu : AnyV u) (r : Nat → Int32) (z z' : Int32) : XR n W (sX_mind x (sM_z (sM_then (gX_mind x) u) z)) (sD_seed (sD_m d r) z') := ⟨h.1, h.2.1, h.2.2.1, hu, h.2.2.2.2⟩
theorem m_lots {n W : Nat} {x : XS} {d : DS} (h : XR n W x d) (a s v : Int32) : OKi (f_X10_lots x a s v) (f_X11_lots d a s v) := by
  have hn := h.iv.n8
  have hw := h.w
  unfold f_X10_lots f_X11_lots
  rw [out_eq]
  obtain ⟨c9, e9⟩ : ∃ c, f_X10_wrongWhat v (1 : Int32) = some c := by
    rcases wwh v (hi := 1) (by decide) with ⟨k, hk, rfl, e3, e4⟩ | ⟨e3, e4, -⟩
    · exact ⟨_, e3⟩
    · exact ⟨_, e3⟩
  unfold f_X11_wrongBy
  by_cases g1 : (1 : Int32) ≤ a
  · rw [if_pos g1, if_pos g1]
    by_cases g2 : a ≤ (20 : Int32)
    · rw [if_pos g2, if_pos g2, Option.bind_some]
      obtain ⟨k, hk1, hk2, rfl⟩ : ∃ k, 1 ≤ k ∧ k ≤ 20 ∧ a = nI k := by
        rcases rng a (lo := 1) (hi := 20) (by decide) (by decide) with ⟨k, q1, q2, q3, -⟩ | ⟨c, hc, e⟩
        · exact ⟨k, q1, q2, q3⟩
        · unfold f_X11_wrongBy at e
          rw [if_pos (show nI 1 ≤ a from g1), if_pos (show a ≤ nI 20 from g2)] at e
          exact absurd (Option.some.inj e).symm hc.ne
      rcases wwh v (hi := 1) (by decide) with ⟨j, hj, rfl, e3, e4⟩ | ⟨e3, e4, -⟩
      · have e3 : f_X10_wrongWhat (nI j) (1 : Int32) = some 0 := e3
        have e4 : f_X11_isIn (nI j) (0 : Int32) (1 : Int32) = some 1 := e4
        rw [e3, e4, Option.bind_some, Option.bind_some, if_neg (show ¬ (1 : Int32) = 0 by decide), ref2, if_pos rfl, cnt_0, Option.bind_some, if_pos rfl]
        obtain ⟨w, z, hwv, e5⟩ := bl_X (u := gX_mind x) (k := k) h.iv (by omega) h.th hk2 s (nI j)
        obtain ⟨r, z2, e6⟩ := lo_M (k := k) h.iv h.rv hk2 s (nI j)
        refine ⟨(ltS (xNow x) n (nI j) s k).1, _, _, n, W, ?_, e6, XR_z h hwv r z z2⟩
        have e7 : (if nI j = (1 : Int32) then f_X10_lots_44 (((0 : Int32), x)).2 (1 : Int32) s (nI k) else f_X10_lots_44 (((0 : Int32), x)).2 (0 : Int32) s (nI k)) = f_X10_lots_44 x (nI j) s (nI k) := by
          rcases (show j = 0 ∨ j = 1 by omega) with rfl | rfl
          · rw [if_neg (by decide)]; rfl
          · rw [if_pos (show nI 1 = 1 from rfl)]; rfl
        rw [e7]
        unfold f_X10_lots_44
        rw [e5, Option.bind_some]
      · have e3 : f_X10_wrongWhat v (1 : Int32) = some (-2) := e3
        have e4 : f_X11_isIn v (0 : Int32) (1 : Int32) = some 0 := e4
        rw [e3, e4, Option.bind_some, Option.bind_some, if_pos rfl]
        refine OK_ref h rc2 ?_ ?_
        · rw [ref2, if_pos rfl, cnt_c rc2, Option.bind_some, if_neg rc2.ne]
        · rw [no_M rc2, Option.bind_some]
    · rw [if_neg g2, if_neg g2, Option.bind_some, e9, Option.bind_some]
      refine OK_ref h rc6 ?_ ?_
      · rw [ref2, if_neg rc6.ne, cnt_c rc6, Option.bind_some, if_neg rc6.ne]
      · rw [no_M rc6, Option.bind_some]
  · rw [if_neg g1, if_neg g1, Option.bind_some, e9, Option.bind_some]
    refine OK_ref h rc4 ?_ ?_
    · rw [ref2, if_neg rc4.ne, cnt_c rc4, Option.bind_some, if_neg rc4.ne]
    · rw [no_M rc4, Option.bind_some]
