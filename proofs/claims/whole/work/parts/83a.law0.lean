/-! the start: both sides new -/
theorem IV_v0 : IV 0 0 v0 := ⟨by decide, rfl, rfl, ⟨1, by decide, rfl⟩, fun p _ => ⟨⟨0, by decide, rfl⟩, ⟨0, by decide, rfl⟩, Or.inl rfl, ⟨0, by decide, rfl⟩⟩, fun j _ => ⟨0, by decide, rfl⟩, fun p _ => ⟨rfl, rfl, rfl, rfl⟩, fun j _ => rfl⟩
theorem RV_v0 : RV v0 (gD_s d0) := by
  refine ⟨un (by decide), un (by decide), us, fun p hp => ⟨un (by omega), un (by omega), un (by omega), un (by omega)⟩, fun q p hq hp => un (by omega)⟩
theorem XR_0 : XR 0 0 x0 d0 := ⟨IV_v0, by decide, RV_v0, IV_v0.any, IV_v0.any, IV_v0.any, ⟨IV_v0.any, Or.inl ⟨rfl, rfl⟩⟩, fun k _ => rfl, ⟨0, by decide, rfl, rfl, fun i hi => absurd hi (Nat.not_lt_zero _)⟩, ⟨0, by decide, rfl, rfl, fun i hi => absurd hi (Nat.not_lt_zero _)⟩⟩
