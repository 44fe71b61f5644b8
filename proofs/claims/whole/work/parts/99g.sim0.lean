/-- the beginning: nothing told, the two sides belong together -/
theorem sim0 {σ : Mem} (h01 : σ.1 0 1 = 3) (h02 : σ.1 0 2 = 20) (h05 : σ.1 0 5 = 0) (h11 : σ.1 1 1 = 0) (hf : σ.1 79 37 = σ.1 1 3) (h3 : ∀ k : Int, 0 ≤ k → k ≤ 3 → σ.1 3 k = 0) (h37 : ∀ k : Int, 0 ≤ k → k ≤ 6 → σ.1 37 k = 0) (h65 : σ.1 65 0 = 0) (h76 : ∀ j, σ.1 76 j = 0) (h78 : ∀ j, σ.1 78 j = 0) (h79 : ∀ k : Int, k = 0 ∨ k = 4 ∨ k = 9 ∨ k = 13 ∨ k = 29 ∨ k = 30 ∨ k = 31 ∨ k = 34 ∨ k = 36 ∨ k = 68 → σ.1 79 k = 0) (h133 : ∀ i : Nat, i < 2 → σ.1 133 i = 0) : Sim 0 σ := by
  have nl0 : ∀ {p : Nat} {q : Prop}, p < 0 → q := fun {p q} h => absurd h (Nat.not_lt_zero _)
  refine ⟨3, 20, 0, 0, 0, 0, 0, 0, 0, 0, 0, 0, 0, (fun _ => 0), (fun _ => 0), ⟨Or.inl ⟨rfl, rfl⟩, h01, h02, ⟨⟨⟨Or.inl rfl, h3 0 (by decide) (by decide), by decide, h3 1 (by decide) (by decide), by decide, fun r hr => nl0 hr⟩, ⟨h3 2 (by decide) (by decide), by decide⟩, ⟨h3 3 (by decide) (by decide), by decide⟩, fun p hp => nl0 hp, fun p hp => nl0 hp, fun p hp => nl0 hp, fun p hp => nl0 hp⟩, ⟨?_, ?_, ?_, ⟨h37 3 (by decide) (by decide), by decide⟩, ⟨h37 4 (by decide) (by decide), by decide⟩, ⟨h37 5 (by decide) (by decide), by decide⟩, ?_, fun p hp => nl0 hp, fun p hp => nl0 hp, fun b c hp => nl0 hp, fun p hp => nl0 hp⟩, ⟨⟨h79 0 (by omega), h79 4 (by omega), h79 9 (by omega), h79 13 (by omega)⟩, fun p hp => nl0 hp, fun p hp => nl0 hp, fun p hp => nl0 hp, fun p hp => nl0 hp⟩, ⟨⟨?_, ?_, ?_, ?_⟩, fun p hp => nl0 hp, fun p hp => nl0 hp, fun p hp => nl0 hp, fun i hi => ?_⟩⟩, by decide, ⟨h65, by decide, fun p hp => nl0 hp⟩, ⟨h79 68 (by omega), fun p hp => nl0 hp⟩, h05, by decide, fun i hi => ⟨?_, fun y => absurd y (by rw [Nat.zero_testBit]; decide)⟩, h11, ⟨h79 36 (by omega), by decide, fun p hp => nl0 hp⟩, hf, fun j => by rw [h76]; decide, fun j => by rw [h78]; decide⟩⟩
  · rw [h37 0 (by decide) (by decide)]; decide
  · rw [h37 1 (by decide) (by decide)]; exact ⟨by decide, by omega⟩
  · rw [h37 2 (by decide) (by decide)]; decide
  · rw [h37 6 (by decide) (by decide)]; decide
  · rw [h79 29 (by omega), h37 0 (by decide) (by decide)]
  · rw [h79 30 (by omega), h37 1 (by decide) (by decide)]
  · rw [h79 31 (by omega), h37 6 (by decide) (by decide)]
  · rw [h79 34 (by omega), h37 2 (by decide) (by decide)]
  · rw [h37 6 (by decide) (by decide)] at hi; omega
  · rw [h133 i hi, b2_f (by rw [Nat.zero_testBit]; decide)]
