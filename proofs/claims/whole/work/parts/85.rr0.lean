theorem m0_hi {k j : Nat} (h : 91 ≤ k) : m0_RS k j = 0 := by
  unfold m0_RS
  rw [if_neg (by omega), if_neg (by omega), if_neg (by omega), if_neg (by omega)]
theorem m0_ro {k j : Nat} (h : 2 ≤ k) (h2 : k < 14) : m0_RS k j = 0 := by
  unfold m0_RS m0_VA m0_RO
  rw [if_neg (by omega), if_pos (by omega), if_neg (by omega), if_pos (by omega)]
theorem rr_0 : RR m0_RS m0_MO := by
  refine ⟨⟨((0, 0, 0, 1), fun _ _ => 0, fun _ _ => 0, fun _ _ => 0, fun _ => [], [], []), ?_, ?_, ?_⟩, ⟨rfl, rfl, rfl, rfl⟩, ⟨rfl, rfl, rfl, rfl⟩, ⟨rfl, Or.inl rfl⟩, ?_, ?_, ?_⟩
  · exact ⟨Nat.zero_le _, Nat.zero_le _, fun h => h, Nat.zero_le _, fun _ _ _ => Nat.zero_le _, fun _ _ _ => rfl, fun _ _ => Nat.zero_le _, fun _ _ _ => rfl, fun _ _ _ _ => Nat.zero_le _, fun _ => Nat.zero_le _, Nat.zero_le _, Nat.zero_le _⟩
  · refine ⟨rfl, rfl, rfl, rfl, rfl, rfl, fun w r hw _ => m0_ro (by omega) (by omega), fun a b ha _ => m0_ro (by omega) (by omega), fun w c _ hc => absurd hc (Nat.not_lt_zero c), fun i hi => absurd hi (Nat.not_lt_zero i), fun i hi => absurd hi (Nat.not_lt_zero i), fun u hu => ?_⟩
    have hu' : u = 0 ∨ u = 1 := by omega
    rcases hu' with rfl | rfl
    · exact ⟨rfl, rfl, [], Or.inl ⟨rfl, rfl⟩, Nat.zero_le _, rfl, fun i hi => absurd hi (Nat.not_lt_zero i)⟩
    · exact ⟨rfl, rfl, [], Or.inl ⟨rfl, rfl⟩, Nat.zero_le _, rfl, fun i hi => absurd hi (Nat.not_lt_zero i)⟩
  · have z : ∀ k, k ≠ 3 → m0_MO 1 k = 0 := fun k hk => by
      unfold m0_MO; rw [if_pos rfl, if_neg hk]
    exact ⟨rfl, rfl, rfl, rfl, rfl, rfl, fun r w hr _ => absurd hr (Nat.not_lt_zero r), fun a b _ _ => z _ (by omega), fun c w hc _ => absurd hc (Nat.not_lt_zero c), fun u _ => z _ (by omega), fun i hi => absurd hi (Nat.not_lt_zero i), fun u i _ hi => absurd hi (Nat.not_lt_zero i), fun i hi => absurd hi (Nat.not_lt_zero i)⟩
  · exact fun j hj => ⟨0, 0, Or.inl rfl, Nat.zero_le _, fun _ => rfl, m0_hi (by omega), rfl, m0_hi (by omega), rfl, fun i _ => m0_hi (by omega)⟩
  · exact ⟨0, Nat.zero_le _, rfl, rfl, fun i hi => absurd hi (Nat.not_lt_zero i)⟩
  · exact fun k _ => m0_hi (by decide)
