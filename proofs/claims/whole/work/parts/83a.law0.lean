/-! the start: both sides new -/
theorem IV_v0 : IV 0 0 v0 := ⟨by decide, rfl, rfl, ⟨1, by decide, rfl⟩, fun p _ => ⟨⟨0, by decide, rfl⟩, ⟨0, by decide, rfl⟩, Or.inl rfl, ⟨0, by decide, rfl⟩⟩, fun j _ => ⟨0, by decide, rfl⟩, fun p _ => ⟨rfl, rfl, rfl, rfl⟩, fun j _ => rfl⟩
theorem d0_n {j : Nat} (h : j ≠ 2) : gD_s d0 j = 0 := (un h : upd (fun _ => (0 : Int32)) 2 1 j = 0)
theorem d0_2 : gD_s d0 2 = 1 := (us : upd (fun _ => (0 : Int32)) 2 1 2 = 1)
theorem RV_v0 : RV v0 (gD_s d0) := ⟨d0_n (by decide), d0_n (by decide), d0_2, fun p hp => ⟨d0_n (by omega), d0_n (by omega), d0_n (by omega), d0_n (by omega)⟩, fun q p hq hp => d0_n (by omega)⟩
theorem XR_0 : XR 0 0 x0 d0 := ⟨IV_v0, by decide, RV_v0, IV_v0.any, IV_v0.any, IV_v0.any, ⟨IV_v0.any, Or.inl ⟨rfl, rfl⟩⟩, fun k _ => rfl, ⟨0, by decide, rfl, rfl, fun i hi => absurd hi (Nat.not_lt_zero _)⟩, ⟨0, by decide, rfl, rfl, fun i hi => absurd hi (Nat.not_lt_zero _)⟩⟩
