theorem addD_new (d : PD) {g j : Nat} (v : Nat → Int) (h : grp j = g) : (addD d g v).2 j (d.1 g) = v j := by rw [addD_r, if_pos ⟨h, rfl⟩]
theorem addD_old (d : PD) {g j p : Nat} (v : Nat → Int) (h : p ≠ d.1 g ∨ grp j ≠ g) : (addD d g v).2 j p = d.2 j p := by
  rw [addD_r, if_neg (fun q => ?_)]
  rcases h with h | h
  · exact h q.2
  · exact h q.1
theorem addD_g (d : PD) (g : Nat) (v : Nat → Int) : (addD d g v).1 g = d.1 g + 1 := if_pos rfl
theorem addD_k (d : PD) {g k : Nat} (v : Nat → Int) (h : k ≠ g) : (addD d g v).1 k = d.1 k := if_neg h
theorem PDok.add0 {d : PD} (h : PDok d) (hf : d.1 0 < 8) (v : Nat → Int) (hv : (0 ≤ v 1 ∧ v 1 ≤ 99) ∧ (0 ≤ v 2 ∧ v 2 ≤ 99) ∧ (1 ≤ v 3 ∧ v 3 ≤ 5)) : PDok (addD d 0 v) := by
  obtain ⟨k0, k1, k2, k3, kp, kr, kb, kl⟩ := h
  refine ⟨by rw [addD_g]; omega, by rw [addD_k _ _ (by decide)]; omega, by rw [addD_k _ _ (by decide)]; omega, by rw [addD_k _ _ (by decide)]; omega, fun p hp => ?_, fun p hp => ?_, fun p hp => ?_, fun p hp => ?_⟩
  · rw [addD_g] at hp
    by_cases e : p = d.1 0
    · subst e
      rw [addD_new _ v (show grp 1 = 0 from rfl), addD_new _ v (show grp 2 = 0 from rfl), addD_new _ v (show grp 3 = 0 from rfl)]
      have e0 : (addD d 0 v).1 0 = d.1 0 + 1 := addD_g _ _ _
      exact hv
    · have z := kp p (by omega)
      rw [addD_old (j := 1) _ v (Or.inl e), addD_old (j := 2) _ v (Or.inl e), addD_old (j := 3) _ v (Or.inl e)]
      exact z
  · rw [addD_k _ _ (by decide)] at hp
    have z := kr p hp
    rw [addD_old (j := 5) (p := p) d v (Or.inr (show grp 5 ≠ 0 by decide)), addD_old (j := 6) (p := p) d v (Or.inr (show grp 6 ≠ 0 by decide)), addD_old (j := 7) (p := p) d v (Or.inr (show grp 7 ≠ 0 by decide)), addD_old (j := 8) (p := p) d v (Or.inr (show grp 8 ≠ 0 by decide))]
    rw [addD_g]
    exact ⟨by omega, by omega, z.2.2.1, z.2.2.2.1, z.2.2.2.2⟩
  · rw [addD_k _ _ (by decide)] at hp
    have z := kb p hp
    rw [addD_old (j := 9) (p := p) d v (Or.inr (show grp 9 ≠ 0 by decide)), addD_old (j := 10) (p := p) d v (Or.inr (show grp 10 ≠ 0 by decide)), addD_old (j := 11) (p := p) d v (Or.inr (show grp 11 ≠ 0 by decide))]
    rw [addD_g]
    exact ⟨by omega, z.2.1, z.2.2⟩
  · rw [addD_k _ _ (by decide)] at hp
    have z := kl p hp
    rw [addD_old (j := 12) (p := p) d v (Or.inr (show grp 12 ≠ 0 by decide)), addD_old (j := 13) (p := p) d v (Or.inr (show grp 13 ≠ 0 by decide)), addD_old (j := 14) (p := p) d v (Or.inr (show grp 14 ≠ 0 by decide)), addD_old (j := 15) (p := p) d v (Or.inr (show grp 15 ≠ 0 by decide)), addD_old (j := 16) (p := p) d v (Or.inr (show grp 16 ≠ 0 by decide))]
    rw [addD_g]
    exact ⟨by omega, by omega, z.2.2.1, z.2.2.2⟩
theorem PDok.add1 {d : PD} (h : PDok d) (hf : d.1 1 < 12) (v : Nat → Int) (hv : (0 ≤ v 5 ∧ v 5 < d.1 0) ∧ (0 ≤ v 6 ∧ v 6 < d.1 0) ∧ v 5 ≠ v 6 ∧ (1 ≤ v 7 ∧ v 7 ≤ 99) ∧ (1 ≤ v 8 ∧ v 8 ≤ 999)) : PDok (addD d 1 v) := by
  obtain ⟨k0, k1, k2, k3, kp, kr, kb, kl⟩ := h
  refine ⟨by rw [addD_k _ _ (by decide)]; omega, by rw [addD_g]; omega, by rw [addD_k _ _ (by decide)]; omega, by rw [addD_k _ _ (by decide)]; omega, fun p hp => ?_, fun p hp => ?_, fun p hp => ?_, fun p hp => ?_⟩
  · rw [addD_k _ _ (by decide)] at hp
    have z := kp p hp
    rw [addD_old (j := 1) (p := p) d v (Or.inr (show grp 1 ≠ 1 by decide)), addD_old (j := 2) (p := p) d v (Or.inr (show grp 2 ≠ 1 by decide)), addD_old (j := 3) (p := p) d v (Or.inr (show grp 3 ≠ 1 by decide))]
    exact z
  · rw [addD_g] at hp
    by_cases e : p = d.1 1
    · subst e
      rw [addD_new _ v (show grp 5 = 1 from rfl), addD_new _ v (show grp 6 = 1 from rfl), addD_new _ v (show grp 7 = 1 from rfl), addD_new _ v (show grp 8 = 1 from rfl)]
      have e0 : (addD d 1 v).1 0 = d.1 0 := addD_k _ _ (by decide)
      rw [e0]; exact hv
    · have z := kr p (by omega)
      rw [addD_old (j := 5) _ v (Or.inl e), addD_old (j := 6) _ v (Or.inl e), addD_old (j := 7) _ v (Or.inl e), addD_old (j := 8) _ v (Or.inl e)]
      rw [addD_k d v (show 0 ≠ 1 by decide)]
      exact z
  · rw [addD_k _ _ (by decide)] at hp
    have z := kb p hp
    rw [addD_old (j := 9) (p := p) d v (Or.inr (show grp 9 ≠ 1 by decide)), addD_old (j := 10) (p := p) d v (Or.inr (show grp 10 ≠ 1 by decide)), addD_old (j := 11) (p := p) d v (Or.inr (show grp 11 ≠ 1 by decide))]
    rw [addD_k d v (show 0 ≠ 1 by decide)]
    exact z
  · rw [addD_k _ _ (by decide)] at hp
    have z := kl p hp
    rw [addD_old (j := 12) (p := p) d v (Or.inr (show grp 12 ≠ 1 by decide)), addD_old (j := 13) (p := p) d v (Or.inr (show grp 13 ≠ 1 by decide)), addD_old (j := 14) (p := p) d v (Or.inr (show grp 14 ≠ 1 by decide)), addD_old (j := 15) (p := p) d v (Or.inr (show grp 15 ≠ 1 by decide)), addD_old (j := 16) (p := p) d v (Or.inr (show grp 16 ≠ 1 by decide))]
    rw [addD_k d v (show 0 ≠ 1 by decide)]
    exact z
theorem PDok.add2 {d : PD} (h : PDok d) (hf : d.1 2 < 4) (v : Nat → Int) (hv : (0 ≤ v 9 ∧ v 9 < d.1 0) ∧ (1 ≤ v 10 ∧ v 10 ≤ 200) ∧ (1 ≤ v 11 ∧ v 11 ≤ 50)) : PDok (addD d 2 v) := by
  obtain ⟨k0, k1, k2, k3, kp, kr, kb, kl⟩ := h
  refine ⟨by rw [addD_k _ _ (by decide)]; omega, by rw [addD_k _ _ (by decide)]; omega, by rw [addD_g]; omega, by rw [addD_k _ _ (by decide)]; omega, fun p hp => ?_, fun p hp => ?_, fun p hp => ?_, fun p hp => ?_⟩
  · rw [addD_k _ _ (by decide)] at hp
    have z := kp p hp
    rw [addD_old (j := 1) (p := p) d v (Or.inr (show grp 1 ≠ 2 by decide)), addD_old (j := 2) (p := p) d v (Or.inr (show grp 2 ≠ 2 by decide)), addD_old (j := 3) (p := p) d v (Or.inr (show grp 3 ≠ 2 by decide))]
    exact z
  · rw [addD_k _ _ (by decide)] at hp
    have z := kr p hp
    rw [addD_old (j := 5) (p := p) d v (Or.inr (show grp 5 ≠ 2 by decide)), addD_old (j := 6) (p := p) d v (Or.inr (show grp 6 ≠ 2 by decide)), addD_old (j := 7) (p := p) d v (Or.inr (show grp 7 ≠ 2 by decide)), addD_old (j := 8) (p := p) d v (Or.inr (show grp 8 ≠ 2 by decide))]
    rw [addD_k d v (show 0 ≠ 2 by decide)]
    exact z
  · rw [addD_g] at hp
    by_cases e : p = d.1 2
    · subst e
      rw [addD_new _ v (show grp 9 = 2 from rfl), addD_new _ v (show grp 10 = 2 from rfl), addD_new _ v (show grp 11 = 2 from rfl)]
      have e0 : (addD d 2 v).1 0 = d.1 0 := addD_k _ _ (by decide)
      rw [e0]; exact hv
    · have z := kb p (by omega)
      rw [addD_old (j := 9) _ v (Or.inl e), addD_old (j := 10) _ v (Or.inl e), addD_old (j := 11) _ v (Or.inl e)]
      rw [addD_k d v (show 0 ≠ 2 by decide)]
      exact z
  · rw [addD_k _ _ (by decide)] at hp
    have z := kl p hp
    rw [addD_old (j := 12) (p := p) d v (Or.inr (show grp 12 ≠ 2 by decide)), addD_old (j := 13) (p := p) d v (Or.inr (show grp 13 ≠ 2 by decide)), addD_old (j := 14) (p := p) d v (Or.inr (show grp 14 ≠ 2 by decide)), addD_old (j := 15) (p := p) d v (Or.inr (show grp 15 ≠ 2 by decide)), addD_old (j := 16) (p := p) d v (Or.inr (show grp 16 ≠ 2 by decide))]
    rw [addD_k d v (show 0 ≠ 2 by decide)]
    exact z
theorem PDok.add3 {d : PD} (h : PDok d) (hf : d.1 3 < 4) (v : Nat → Int) (hv : (0 ≤ v 12 ∧ v 12 < d.1 0) ∧ (0 ≤ v 13 ∧ v 13 < d.1 0) ∧ v 12 ≠ v 13 ∧ (0 ≤ v 14 ∧ v 14 ≤ 200) ∧ (0 ≤ v 15 ∧ v 15 ≤ 999) ∧ (0 ≤ v 16 ∧ v 16 ≤ 3)) : PDok (addD d 3 v) := by
  obtain ⟨k0, k1, k2, k3, kp, kr, kb, kl⟩ := h
  refine ⟨by rw [addD_k _ _ (by decide)]; omega, by rw [addD_k _ _ (by decide)]; omega, by rw [addD_k _ _ (by decide)]; omega, by rw [addD_g]; omega, fun p hp => ?_, fun p hp => ?_, fun p hp => ?_, fun p hp => ?_⟩
  · rw [addD_k _ _ (by decide)] at hp
    have z := kp p hp
    rw [addD_old (j := 1) (p := p) d v (Or.inr (show grp 1 ≠ 3 by decide)), addD_old (j := 2) (p := p) d v (Or.inr (show grp 2 ≠ 3 by decide)), addD_old (j := 3) (p := p) d v (Or.inr (show grp 3 ≠ 3 by decide))]
    exact z
  · rw [addD_k _ _ (by decide)] at hp
    have z := kr p hp
    rw [addD_old (j := 5) (p := p) d v (Or.inr (show grp 5 ≠ 3 by decide)), addD_old (j := 6) (p := p) d v (Or.inr (show grp 6 ≠ 3 by decide)), addD_old (j := 7) (p := p) d v (Or.inr (show grp 7 ≠ 3 by decide)), addD_old (j := 8) (p := p) d v (Or.inr (show grp 8 ≠ 3 by decide))]
    rw [addD_k d v (show 0 ≠ 3 by decide)]
    exact z
  · rw [addD_k _ _ (by decide)] at hp
    have z := kb p hp
    rw [addD_old (j := 9) (p := p) d v (Or.inr (show grp 9 ≠ 3 by decide)), addD_old (j := 10) (p := p) d v (Or.inr (show grp 10 ≠ 3 by decide)), addD_old (j := 11) (p := p) d v (Or.inr (show grp 11 ≠ 3 by decide))]
    rw [addD_k d v (show 0 ≠ 3 by decide)]
    exact z
  · rw [addD_g] at hp
    by_cases e : p = d.1 3
    · subst e
      rw [addD_new _ v (show grp 12 = 3 from rfl), addD_new _ v (show grp 13 = 3 from rfl), addD_new _ v (show grp 14 = 3 from rfl), addD_new _ v (show grp 15 = 3 from rfl), addD_new _ v (show grp 16 = 3 from rfl)]
      have e0 : (addD d 3 v).1 0 = d.1 0 := addD_k _ _ (by decide)
      rw [e0]; exact hv
    · have z := kl p (by omega)
      rw [addD_old (j := 12) _ v (Or.inl e), addD_old (j := 13) _ v (Or.inl e), addD_old (j := 14) _ v (Or.inl e), addD_old (j := 15) _ v (Or.inl e), addD_old (j := 16) _ v (Or.inl e)]
      rw [addD_k d v (show 0 ≠ 3 by decide)]
      exact z
theorem poleR_ok {c : Nat → Int} {L i e : Nat} {d d2 : PD} (hK : PDok d) (hf : d.1 0 < 8) (h : poleR c L d i = .inr (d2, e)) (hi : i ≤ L) : PDok d2 ∧ i < e ∧ e ≤ L := by
  unfold poleR at h
  split at h
  · cases h
  rename_i x1 a1 e1 hN1
  have n1 := numR_ok hN1 hi
  split at h
  · cases h
  rename_i x2 a2 e2 hN2
  have n2 := numR_ok hN2 n1.2.2.2.2
  split at h
  · cases h
  rename_i x3 a3 e3 hN3
  have n3 := numR_ok hN3 n2.2.2.2.2
  cases h
  refine ⟨hK.add0 hf _ ?_, by omega, by omega⟩
  exact ⟨⟨n1.1, n1.2.1⟩, ⟨n2.1, n2.2.1⟩, ⟨n3.1, n3.2.1⟩⟩
theorem ropeR_ok {c : Nat → Int} {L i e : Nat} {d d2 : PD} (hK : PDok d) (hf : d.1 1 < 12) (h : ropeR c L d i = .inr (d2, e)) (hi : i ≤ L) : PDok d2 ∧ i < e ∧ e ≤ L := by
  unfold ropeR at h
  split at h
  · cases h
  rename_i x1 a1 e1 hN1
  have n1 := numR_ok hN1 hi
  split at h
  · cases h
  rename_i x2 a2 e2 hN2
  have n2 := othR_ok hN2 n1.2.2.2.2
  split at h
  · cases h
  rename_i x3 a3 e3 hN3
  have n3 := numR_ok hN3 n2.2.2.2.2.1
  split at h
  · cases h
  rename_i x4 a4 e4 hN4
  have n4 := numR_ok hN4 n3.2.2.2.2
  cases h
  refine ⟨hK.add1 hf _ ?_, by omega, by omega⟩
  show (0 ≤ x1 ∧ x1 < _) ∧ (0 ≤ x2 ∧ x2 < _) ∧ x1 ≠ x2 ∧ (1 ≤ x3 ∧ x3 ≤ 99) ∧ (1 ≤ x4 ∧ x4 ≤ 999)
  have hne := n2.2.2.2.2.2
  refine ⟨⟨by omega, by omega⟩, ⟨by omega, by omega⟩, fun q => hne q.symm, ⟨by omega, by omega⟩, ⟨by omega, by omega⟩⟩
theorem boyR_ok {c : Nat → Int} {L i e : Nat} {d d2 : PD} (hK : PDok d) (hf : d.1 2 < 4) (h : boyR c L d i = .inr (d2, e)) (hi : i ≤ L) : PDok d2 ∧ i < e ∧ e ≤ L := by
  unfold boyR at h
  split at h
  · cases h
  rename_i x1 a1 e1 hN1
  have n1 := numR_ok hN1 hi
  split at h
  · cases h
  rename_i hni
  split at h
  · cases h
  rename_i x2 a2 e2 hN2
  have n2 := numR_ok hN2 n1.2.2.2.2
  split at h
  · cases h
  rename_i x3 a3 e3 hN3
  have n3 := numR_ok hN3 n2.2.2.2.2
  cases h
  refine ⟨hK.add2 hf _ ?_, by omega, by omega⟩
  show (0 ≤ x1 ∧ x1 < _) ∧ (1 ≤ x2 ∧ x2 ≤ 200) ∧ (1 ≤ x3 ∧ x3 ≤ 50)
  refine ⟨⟨by omega, by omega⟩, ⟨by omega, by omega⟩, ⟨by omega, by omega⟩⟩
theorem loadR_ok {c : Nat → Int} {L i e : Nat} {d d2 : PD} (hK : PDok d) (hf : d.1 3 < 4) (h : loadR c L d i = .inr (d2, e)) (hi : i ≤ L) : PDok d2 ∧ i < e ∧ e ≤ L := by
  unfold loadR at h
  split at h
  · cases h
  rename_i x1 a1 e1 hN1
  have n1 := numR_ok hN1 hi
  split at h
  · cases h
  rename_i x2 a2 e2 hN2
  have n2 := othR_ok hN2 n1.2.2.2.2
  split at h
  · cases h
  rename_i x3 a3 e3 hN3
  have n3 := numR_ok hN3 n2.2.2.2.2.1
  split at h
  · cases h
  rename_i x4 a4 e4 hN4
  have n4 := numR_ok hN4 n3.2.2.2.2
  split at h
  · cases h
  rename_i x5 a5 e5 hN5
  have n5 := kndR_ok hN5 n4.2.2.2.2
  cases h
  refine ⟨hK.add3 hf _ ?_, by omega, by omega⟩
  show (0 ≤ x1 ∧ x1 < _) ∧ (0 ≤ x2 ∧ x2 < _) ∧ x1 ≠ x2 ∧ (0 ≤ x3 ∧ x3 ≤ 200) ∧ (0 ≤ x4 ∧ x4 ≤ 999) ∧ (0 ≤ x5 ∧ x5 ≤ 3)
  have hne := n2.2.2.2.2.2
  refine ⟨⟨by omega, by omega⟩, ⟨by omega, by omega⟩, fun q => hne q.symm, ⟨by omega, by omega⟩, ⟨by omega, by omega⟩, ⟨by omega, by omega⟩⟩
def endR (c : Nat → Int) (L : Nat) (R : BRes) : BRes := match R with
  | .inl q => .inl q
  | .inr (d, e) => if sk c L e < L ∧ c (sk c L e) = 59 then .inr (d, sk c L e + 1) else .inl (1, sk c L e)
def clsR (c : Nat → Int) (L : Nat) (d : PD) (i : Nat) : BRes :=
  if wrd c (sk c L i) (scan (isA c) L (sk c L i)) 0 then (if d.1 0 < 8 then endR c L (poleR c L d (scan (isA c) L (sk c L i))) else .inl (3, sk c L i))
  else if wrd c (sk c L i) (scan (isA c) L (sk c L i)) 1 then (if d.1 1 < 12 then endR c L (ropeR c L d (scan (isA c) L (sk c L i))) else .inl (3, sk c L i))
  else if wrd c (sk c L i) (scan (isA c) L (sk c L i)) 2 then (if d.1 2 < 4 then endR c L (boyR c L d (scan (isA c) L (sk c L i))) else .inl (3, sk c L i))
  else if wrd c (sk c L i) (scan (isA c) L (sk c L i)) 3 then (if d.1 3 < 4 then endR c L (loadR c L d (scan (isA c) L (sk c L i))) else .inl (3, sk c L i))
  else .inl (1, sk c L i)
theorem endR_ok {c : Nat → Int} {L e : Nat} {R : BRes} {d : PD} (h : endR c L R = .inr (d, e)) : ∃ e0, R = .inr (d, e0) ∧ e0 < e ∧ e ≤ L := by
  unfold endR at h
  split at h
  · cases h
  next d1 e1 =>
    split at h
    next q =>
      cases h
      have := scan_ge (isB c) L e1
      exact ⟨e1, rfl, by unfold sk; omega, q.1⟩
    · cases h
theorem clsR_ok {c : Nat → Int} {L i e : Nat} {d d2 : PD} (hK : PDok d) (h : clsR c L d i = .inr (d2, e)) (hi : i ≤ L) : PDok d2 ∧ i < e ∧ e ≤ L := by
  have h1 : i ≤ sk c L i := scan_ge _ _ _
  have h2 := scan_ge (isA c) L (sk c L i)
  have h3 : sk c L i ≤ L := scan_le hi
  have h4 : scan (isA c) L (sk c L i) ≤ L := scan_le h3
  unfold clsR at h
  split at h
  · split at h
    next hf =>
      obtain ⟨e0, hR, h5, h6⟩ := endR_ok h
      obtain ⟨a1, a2, a3⟩ := poleR_ok hK hf hR h4
      exact ⟨a1, by omega, h6⟩
    · cases h
  split at h
  · split at h
    next hf =>
      obtain ⟨e0, hR, h5, h6⟩ := endR_ok h
      obtain ⟨a1, a2, a3⟩ := ropeR_ok hK hf hR h4
      exact ⟨a1, by omega, h6⟩
    · cases h
  split at h
  · split at h
    next hf =>
      obtain ⟨e0, hR, h5, h6⟩ := endR_ok h
      obtain ⟨a1, a2, a3⟩ := boyR_ok hK hf hR h4
      exact ⟨a1, by omega, h6⟩
    · cases h
  split at h
  · split at h
    next hf =>
      obtain ⟨e0, hR, h5, h6⟩ := endR_ok h
      obtain ⟨a1, a2, a3⟩ := loadR_ok hK hf hR h4
      exact ⟨a1, by omega, h6⟩
    · cases h
  cases h
def parR (c : Nat → Int) (L : Nat) : Nat → PD → Nat → (Int × Nat) ⊕ PD
  | 0, d, _ => .inr d
  | n + 1, d, i => if sk c L i < L then (match clsR c L d (sk c L i) with
    | .inl q => .inl q
    | .inr (d2, e) => parR c L n d2 e) else .inr d
/-- the numbers of a fault -/
theorem PRepG.same {σ τ : Mem} {o : Nat} {f : Nat → Int} {m : Nat → Nat} {d : PD} {S : Nat → Prop} (h : PRepG σ o f m d) (hs : Same S σ τ) (h0 : ¬ S o) (hm : ∀ j, row j → ¬ S (m j)) : PRepG τ o f m d := ⟨fun k hk => by rw [hs.at h0]; exact h.1 k hk, fun j hj p hp => by rw [hs.at (hm j hj)]; exact h.2 j hj p hp⟩
theorem PRep.same1 {σ τ : Mem} {P : Nat} {d : PD} (h : PRep σ P d) (hs : Same S1 σ τ) (hP : P = 3 ∨ P = 20) : PRep τ P d := PRepG.same h hs (by unfold S1; omega) (fun j _ => by unfold S1; omega)
theorem RAt.same1 {σ τ : Mem} {P : Nat} {d : PD} (h : RAt σ P d) (hs : Same S1 σ τ) (hP : P = 3 ∨ P = 20) : RAt τ P d := fun p hp => by rw [hs.at (by unfold S1; omega)]; exact h p hp
theorem k_bPole {σ τ : Mem} {P L i : Nat} {d : PD} (h : RdI σ τ P L i) (hP : P = 3 ∨ P = 20) (hL5 : L ≤ 500) (hiL : i ≤ L) (hD : PRep τ P d) (hA : RAt τ P d) (hK : PDok d) (hf : d.1 0 < 8) : Con yX3_readPole cX3_readPole 3 (some .boolean) 2 44 [.ref 1, .ref P] τ (AnsQ (BodyQ τ P L (poleR (fun j : Nat => σ.1 2 j) L d i))) := by
  have q := k_readPole τ P L i d hP hL5 hiL ⟨Same.rf, h.2.1, rfl, h.2.2.2⟩ hD hA hK hf
  rw [h.c hP] at q
  exact q
theorem k_bRope {σ τ : Mem} {P L i : Nat} {d : PD} (h : RdI σ τ P L i) (hP : P = 3 ∨ P = 20) (hL5 : L ≤ 500) (hiL : i ≤ L) (hD : PRep τ P d) (hA : RAt τ P d) (hK : PDok d) (hf : d.1 1 < 12) : Con yX3_readRope cX3_readRope 3 (some .boolean) 3 66 [.ref 1, .ref P] τ (AnsQ (BodyQ τ P L (ropeR (fun j : Nat => σ.1 2 j) L d i))) := by
  have q := k_readRope τ P L i d hP hL5 hiL ⟨Same.rf, h.2.1, rfl, h.2.2.2⟩ hD hA hK hf
  rw [h.c hP] at q
  exact q
theorem k_bBoy {σ τ : Mem} {P L i : Nat} {d : PD} (h : RdI σ τ P L i) (hP : P = 3 ∨ P = 20) (hL5 : L ≤ 500) (hiL : i ≤ L) (hD : PRep τ P d) (hA : RAt τ P d) (hK : PDok d) (hf : d.1 2 < 4) : Con yX3_readBoy cX3_readBoy 3 (some .boolean) 2 44 [.ref 1, .ref P] τ (AnsQ (BodyQ τ P L (boyR (fun j : Nat => σ.1 2 j) L d i))) := by
  have q := k_readBoy τ P L i d hP hL5 hiL ⟨Same.rf, h.2.1, rfl, h.2.2.2⟩ hD hA hK hf
  rw [h.c hP] at q
  exact q
theorem k_bLoad {σ τ : Mem} {P L i : Nat} {d : PD} (h : RdI σ τ P L i) (hP : P = 3 ∨ P = 20) (hL5 : L ≤ 500) (hiL : i ≤ L) (hD : PRep τ P d) (hA : RAt τ P d) (hK : PDok d) (hf : d.1 3 < 4) : Con yX3_readLoad cX3_readLoad 3 (some .boolean) 9 216 [.ref 1, .ref P] τ (AnsQ (BodyQ τ P L (loadR (fun j : Nat => σ.1 2 j) L d i))) := by
  have q := k_readLoad τ P L i d hP hL5 hiL ⟨Same.rf, h.2.1, rfl, h.2.2.2⟩ hD hA hK hf
  rw [h.c hP] at q
  exact q
def RoomQ (σ : Mem) (a b : Int) (z : Int) (τ : Mem) : Prop := (z = 1 ∧ a < b ∧ τ = σ) ∨ (z = 0 ∧ ¬ a < b ∧ τ = wr (wr σ 1 2 3) 1 3 (σ.1 1 5))
theorem RoomQ.z {σ τ : Mem} {a b z : Int} (h : RoomQ σ a b z τ) : z = 0 ∨ z = 1 := by
  rcases h with h | h
  · exact Or.inr h.1
  · exact Or.inl h.1
theorem RoomQ.R {σ τ : Mem} {a b z : Int} (h : RoomQ σ a b z τ) : inR z := by
  rcases h.z with rfl | rfl <;> decide
theorem RoomQ.ok {σ τ : Mem} {a b z : Int} (h : RoomQ σ a b z τ) (hz : ¬ z = 0) : a < b ∧ τ = σ := by
  rcases h with h | h
  · exact h.2
  · exact absurd h.1 hz
theorem RoomQ.bad {σ τ : Mem} {a b z : Int} (h : RoomQ σ a b z τ) (hz : z = 0) : ¬ a < b ∧ τ = wr (wr σ 1 2 3) 1 3 (σ.1 1 5) := by
  rcases h with h | h
  · have := h.1; omega
  · exact h.2
def EndQ (σ : Mem) (L j : Nat) (c : Nat → Int) (z : Int) (τ : Mem) : Prop := (z = 1 ∧ (j < L ∧ c j = 59) ∧ τ = wr σ 1 4 (j + 1 : Nat)) ∨ (z = 0 ∧ ¬ (j < L ∧ c j = 59) ∧ τ = wr (wr (wr σ 1 4 (j : Nat)) 1 2 1) 1 3 (j : Nat))
theorem EndQ.z {σ τ : Mem} {L j : Nat} {c : Nat → Int} {z : Int} (h : EndQ σ L j c z τ) : z = 0 ∨ z = 1 := by
  rcases h with h | h
  · exact Or.inr h.1
  · exact Or.inl h.1
theorem EndQ.R {σ τ : Mem} {L j : Nat} {c : Nat → Int} {z : Int} (h : EndQ σ L j c z τ) : inR z := by
  rcases h.z with rfl | rfl <;> decide
theorem EndQ.ok {σ τ : Mem} {L j : Nat} {c : Nat → Int} {z : Int} (h : EndQ σ L j c z τ) (hz : ¬ z = 0) : (j < L ∧ c j = 59) ∧ τ = wr σ 1 4 (j + 1 : Nat) := by
  rcases h with h | h
  · exact h.2
  · exact absurd h.1 hz
theorem EndQ.bad {σ τ : Mem} {L j : Nat} {c : Nat → Int} {z : Int} (h : EndQ σ L j c z τ) (hz : z = 0) : ¬ (j < L ∧ c j = 59) ∧ τ = wr (wr (wr σ 1 4 (j : Nat)) 1 2 1) 1 3 (j : Nat) := by
  rcases h with h | h
  · have := h.1; omega
  · exact h.2
theorem k_room2 (σ : Mem) (a b : Int) (ha : inR a) (hb : inR b) : Con yX3_hasRoom cX3_hasRoom 3 (some .boolean) 1 22 [.ref 1, .int (iI a), .int (iI b)] σ (AnsQ (RoomQ σ a b)) := by
  refine con_of (by decide) rfl (Nat.le_of_ble_eq_true rfl) (ok_QZ rfl (fun z τ h => h.z)) ?_
  refine ev_w (fun hR => ?_)
  have hR0 := hR
  refine ev_iload_n dX3_hasRoom_0 rfl ?_
  refine ev_iload_n dX3_hasRoom_1 rfl ?_
  refine ev_icmp_lt (tgt := 17) dX3_hasRoom_2 (by decide) (by first | exact hR.1 _ _ | exact hR0.1 _ _ | assumption | exact ⟨by omega, by omega⟩ | exact ⟨by simp [wr_at]; omega, by simp [wr_at]; omega⟩ | exact b2_R _ | exact band_R _ _ | exact bor_R _ _ | exact bshl_R _ _ | exact bshr_R _ _ | exact bxor_R _ _ | exact bs_R (by omega) | decide) (by first | exact hR.1 _ _ | exact hR0.1 _ _ | assumption | exact ⟨by omega, by omega⟩ | exact ⟨by simp [wr_at]; omega, by simp [wr_at]; omega⟩ | exact b2_R _ | exact band_R _ _ | exact bor_R _ _ | exact bshl_R _ _ | exact bshr_R _ _ | exact bxor_R _ _ | exact bs_R (by omega) | decide) (fun h_2 => ?_) (fun h_2 => ?_)
  · refine ev_iconst dX3_hasRoom_17 ?_
    refine ev_goto (tgt := 22) dX3_hasRoom_18 (by decide) ?_
    refine ev_ireturn dX3_hasRoom_22 ?_
    first
      | exact absurd rfl h_14
      | exact ⟨1, rfl, Or.inl ⟨rfl, by omega, rfl⟩⟩
      | exact ⟨0, rfl, Or.inr ⟨rfl, by omega, rfl⟩⟩
  · refine ev_aload_n dX3_hasRoom_5 rfl ?_
    refine ev_iconst dX3_hasRoom_6 ?_
    refine ev_aload_n dX3_hasRoom_7 rfl ?_
    refine ev_getI (kz := 5) dX3_hasRoom_8 fl_X3_28 rfl rfl rfl ?_
    refine ev_callVI dX3_hasRoom_11 kv_X3_96 (k_fail σ 3 (σ.1 1 5) (by decide) (hR0.1 _ _)) rfl rfl (ci := 3) rfl rfl ⟨by decide, by decide⟩ (Nat.le_of_ble_eq_true rfl) ?_
    refine ev_w (fun hR => ?_)
    refine ev_if_eq (tgt := 21) dX3_hasRoom_14 (by decide) (by first | exact hR.1 _ _ | exact hR0.1 _ _ | assumption | exact ⟨by omega, by omega⟩ | exact ⟨by simp [wr_at]; omega, by simp [wr_at]; omega⟩ | exact b2_R _ | exact band_R _ _ | exact bor_R _ _ | exact bshl_R _ _ | exact bshr_R _ _ | exact bxor_R _ _ | exact bs_R (by omega) | decide) (fun h_14 => ?_) (fun h_14 => ?_)
    · refine ev_iconst dX3_hasRoom_21 ?_
      refine ev_ireturn dX3_hasRoom_22 ?_
      first
        | exact absurd rfl h_14
        | exact ⟨1, rfl, Or.inl ⟨rfl, by omega, rfl⟩⟩
        | exact ⟨0, rfl, Or.inr ⟨rfl, by omega, rfl⟩⟩
    · refine ev_iconst dX3_hasRoom_17 ?_
      refine ev_goto (tgt := 22) dX3_hasRoom_18 (by decide) ?_
      refine ev_ireturn dX3_hasRoom_22 ?_
      first
        | exact absurd rfl h_14
        | exact ⟨1, rfl, Or.inl ⟨rfl, by omega, rfl⟩⟩
        | exact ⟨0, rfl, Or.inr ⟨rfl, by omega, rfl⟩⟩
theorem k_end2 (σ : Mem) (L i : Nat) (hL : σ.1 1 1 = L) (hL5 : L ≤ 500) (hi : σ.1 1 4 = i) (hiL : i ≤ L) : Con yX3_readEnd cX3_readEnd 1 (some .boolean) 1 22 [.ref 1] σ (AnsQ (EndQ σ L (sk (fun j : Nat => σ.1 2 j) L i) (fun j : Nat => σ.1 2 j))) := by
  refine con_of (by decide) rfl (Nat.le_of_ble_eq_true rfl) (ok_QZ rfl (fun z τ h => h.z)) ?_
  refine ev_w (fun hR => ?_)
  have hR0 := hR
  have e1 : (wr σ 1 4 (sk (fun j : Nat => σ.1 2 j) L i : Nat)).1 1 4 = (sk (fun j : Nat => σ.1 2 j) L i : Nat) := wr_eq _ _ _ _
  have e2 : (wr σ 1 4 (sk (fun j : Nat => σ.1 2 j) L i : Nat)).1 1 1 = L := by rw [wr_nek _ (by decide)]; exact hL
  have e3 : ∀ k, (wr σ 1 4 (sk (fun j : Nat => σ.1 2 j) L i : Nat)).1 2 k = σ.1 2 k := fun k => wr_nec _ (by decide)
  have hs1 : i ≤ sk (fun j : Nat => σ.1 2 j) L i := scan_ge _ _ _
  have hs2 : sk (fun j : Nat => σ.1 2 j) L i ≤ L := scan_le hiL
  refine ev_aload_n dX3_readEnd_0 rfl ?_
  refine ev_callVV dX3_readEnd_1 kv_X3_47 (k_skip σ L i hL hL5 hi hiL) rfl rfl (ci := 3) rfl rfl ⟨by decide, by decide⟩ (Nat.le_of_ble_eq_true rfl) ?_
  refine ev_w (fun hR => ?_)
  refine ev_aload_n dX3_readEnd_4 rfl ?_
  refine ev_getI (kz := 4) dX3_readEnd_5 fl_X3_25 rfl rfl rfl ?_
  rw [e1]
  refine ev_aload_n dX3_readEnd_8 rfl ?_
  refine ev_getI (kz := 1) dX3_readEnd_9 fl_X3_15 rfl rfl rfl ?_
  rw [e2]
  refine ev_icmp_ge (tgt := 29) dX3_readEnd_12 (by decide) (by first | exact hR.1 _ _ | exact hR0.1 _ _ | assumption | exact ⟨by omega, by omega⟩ | exact ⟨by simp [wr_at]; omega, by simp [wr_at]; omega⟩ | exact b2_R _ | exact band_R _ _ | exact bor_R _ _ | exact bshl_R _ _ | exact bshr_R _ _ | exact bxor_R _ _ | exact bs_R (by omega) | decide) (by first | exact hR.1 _ _ | exact hR0.1 _ _ | assumption | exact ⟨by omega, by omega⟩ | exact ⟨by simp [wr_at]; omega, by simp [wr_at]; omega⟩ | exact b2_R _ | exact band_R _ _ | exact bor_R _ _ | exact bshl_R _ _ | exact bshr_R _ _ | exact bxor_R _ _ | exact bs_R (by omega) | decide) (fun h_12 => ?_) (fun h_12 => ?_)
  · refine ev_aload_n dX3_readEnd_29 rfl ?_
    refine ev_iconst dX3_readEnd_30 ?_
    refine ev_aload_n dX3_readEnd_31 rfl ?_
    refine ev_getI (kz := 4) dX3_readEnd_32 fl_X3_25 rfl rfl rfl ?_
    rw [e1]
    refine ev_callVI dX3_readEnd_35 kv_X3_96 (k_fail _ 1 _ (by decide) ⟨by omega, by omega⟩) rfl rfl (ci := 3) rfl rfl ⟨by decide, by decide⟩ (Nat.le_of_ble_eq_true rfl) ?_
    refine ev_w (fun hR => ?_)
    refine ev_ireturn dX3_readEnd_38 ?_
    exact ⟨0, rfl, Or.inr ⟨rfl, fun q => by have q2 : σ.1 2 ((sk (fun j : Nat => σ.1 2 j) L i) : Nat) = 59 := q.2; omega, rfl⟩⟩
  · refine ev_aload_n dX3_readEnd_15 rfl ?_
    refine ev_getR (r := 2) dX3_readEnd_16 fl_X3_9 rfl rfl rfl ?_
    refine ev_aload_n dX3_readEnd_19 rfl ?_
    refine ev_getI (kz := 4) dX3_readEnd_20 fl_X3_25 rfl rfl rfl ?_
    rw [e1]
    refine ev_baload dX3_readEnd_23 rfl (by first | omega | (simp [wr_at]; omega) | (simp [wr_at, *]; omega)) (by first | omega | (simp [wr_at]; omega) | (simp [wr_at, *]; omega)) (by decide) ?_
    rw [e3]
    refine ev_bipush dX3_readEnd_24 (by decide) ?_
    refine ev_icmp_eq (tgt := 39) dX3_readEnd_26 (by decide) (by first | exact hR.1 _ _ | exact hR0.1 _ _ | assumption | exact ⟨by omega, by omega⟩ | exact ⟨by simp [wr_at]; omega, by simp [wr_at]; omega⟩ | exact b2_R _ | exact band_R _ _ | exact bor_R _ _ | exact bshl_R _ _ | exact bshr_R _ _ | exact bxor_R _ _ | exact bs_R (by omega) | decide) (by first | exact hR.1 _ _ | exact hR0.1 _ _ | assumption | exact ⟨by omega, by omega⟩ | exact ⟨by simp [wr_at]; omega, by simp [wr_at]; omega⟩ | exact b2_R _ | exact band_R _ _ | exact bor_R _ _ | exact bshl_R _ _ | exact bshr_R _ _ | exact bxor_R _ _ | exact bs_R (by omega) | decide) (fun h_26 => ?_) (fun h_26 => ?_)
    · refine ev_aload_n dX3_readEnd_39 rfl ?_
      refine ev_dup dX3_readEnd_40 rfl ?_
      refine ev_getI (kz := 4) dX3_readEnd_41 fl_X3_25 rfl rfl rfl ?_
      rw [e1]
      refine ev_iconst dX3_readEnd_44 ?_
      refine ev_iadd dX3_readEnd_45 ?_
      refine ev_putI (kz := 4) dX3_readEnd_46 fp_X3_25 rfl rfl rfl (by first | exact hR.1 _ _ | exact hR0.1 _ _ | assumption | exact ⟨by omega, by omega⟩ | exact ⟨by simp [wr_at]; omega, by simp [wr_at]; omega⟩ | exact b2_R _ | exact band_R _ _ | exact bor_R _ _ | exact bshl_R _ _ | exact bshr_R _ _ | exact bxor_R _ _ | exact bs_R (by omega) | decide) ?_
      refine ev_w (fun hR => ?_)
      refine ev_iconst dX3_readEnd_49 ?_
      refine ev_ireturn dX3_readEnd_50 ?_
      rw [wr_wr]
      exact ⟨1, rfl, Or.inl ⟨rfl, ⟨by omega, by show σ.1 2 ((sk (fun j : Nat => σ.1 2 j) L i) : Nat) = 59; omega⟩, rfl⟩⟩
    · refine ev_aload_n dX3_readEnd_29 rfl ?_
      refine ev_iconst dX3_readEnd_30 ?_
      refine ev_aload_n dX3_readEnd_31 rfl ?_
      refine ev_getI (kz := 4) dX3_readEnd_32 fl_X3_25 rfl rfl rfl ?_
      rw [e1]
      refine ev_callVI dX3_readEnd_35 kv_X3_96 (k_fail _ 1 _ (by decide) ⟨by omega, by omega⟩) rfl rfl (ci := 3) rfl rfl ⟨by decide, by decide⟩ (Nat.le_of_ble_eq_true rfl) ?_
      refine ev_w (fun hR => ?_)
      refine ev_ireturn dX3_readEnd_38 ?_
      exact ⟨0, rfl, Or.inr ⟨rfl, fun q => by have q2 : σ.1 2 ((sk (fun j : Nat => σ.1 2 j) L i) : Nat) = 59 := q.2; omega, rfl⟩⟩
theorem k_endI {σ τ : Mem} {P L i : Nat} (h : RdI σ τ P L i) (hP : P = 3 ∨ P = 20) (hL5 : L ≤ 500) (hiL : i ≤ L) : Con yX3_readEnd cX3_readEnd 1 (some .boolean) 1 22 [.ref 1] τ (AnsQ (EndQ τ L (sk (fun j : Nat => σ.1 2 j) L i) (fun j : Nat => σ.1 2 j))) := by
  have q := k_end2 τ L i h.2.1 hL5 h.2.2.2 hiL
  rw [h.c hP] at q
  exact q
theorem k_readClause (σ : Mem) (P L i : Nat) (d : PD) (hP : P = 3 ∨ P = 20) (hL5 : L ≤ 500) (hiL : i ≤ L) (hI : RdI σ σ P L i) (hD : PRep σ P d) (hA : RAt σ P d) (hK : PDok d)  : Con yX3_readClause cX3_readClause 2 (some .boolean) 10 238 [.ref 1, .ref P] σ (AnsQ (BodyQ σ P L (clsR (fun j : Nat => σ.1 2 j) L d i))) := by
  refine con_of (by decide) rfl (Nat.le_of_ble_eq_true rfl) (ok_QZ rfl (fun z τ h => h.z)) ?_
  refine ev_w (fun hR => ?_)
  have hR0 := hR
  obtain ⟨hcn, hrw⟩ := id hD
  have hnp : σ.1 P 0 = d.1 0 := hcn 0 (by decide)
  have hnr : σ.1 P 1 = d.1 1 := hcn 1 (by decide)
  have hnb : σ.1 P 2 = d.1 2 := hcn 2 (by decide)
  have hnl : σ.1 P 3 = d.1 3 := hcn 3 (by decide)
  obtain ⟨kp8, kr12, kb4, kl4, kp, kr, kb, kl⟩ := id hK
  have hs1 : i ≤ (sk (fun j : Nat => σ.1 2 j) L i) := scan_ge _ _ _
  have hs2 : (sk (fun j : Nat => σ.1 2 j) L i) ≤ L := scan_le hiL
  have hs3 : (sk (fun j : Nat => σ.1 2 j) L i) ≤ (scan (isA (fun j : Nat => σ.1 2 j)) L (sk (fun j : Nat => σ.1 2 j) L i)) := scan_ge _ _ _
  have hs4 : (scan (isA (fun j : Nat => σ.1 2 j)) L (sk (fun j : Nat => σ.1 2 j) L i)) ≤ L := scan_le hs2
  refine ev_aload_n dX3_readClause_0 rfl ?_
  refine ev_callVP dX3_readClause_1 kv_X3_50 (k_letters σ L i hI.2.1 hL5 hI.2.2.2 hiL) rfl rfl (ci := 3) rfl rfl ⟨by decide, by decide⟩ (Nat.le_of_ble_eq_true rfl) ?_
  rintro v_1 τ_1 ⟨rfl, hAA⟩
  refine ev_w (fun hR => ?_)
  obtain ⟨g1, g2, g3, g4, g5⟩ := id hAA
  have hI1 : RdI σ τ_1 P L (scan (isA (fun j : Nat => σ.1 2 j)) L (sk (fun j : Nat => σ.1 2 j) L i)) := ⟨g1.mono (fun c hc => Or.inl hc), g2, g3, g4⟩
  have hD1 := hD.same1 g1 hP
  have hA1 := hA.same1 g1 hP
  have hc := hI1.c hP
  have hc0 : τ_1.1 P 0 = d.1 0 := hD1.1 0 (by decide)
  have hc1 : τ_1.1 P 1 = d.1 1 := hD1.1 1 (by decide)
  have hc2 : τ_1.1 P 2 = d.1 2 := hD1.1 2 (by decide)
  have hc3 : τ_1.1 P 3 = d.1 3 := hD1.1 3 (by decide)
  refine ev_aload_n dX3_readClause_4 rfl ?_
  refine ev_ldcs (i := 0) (by decide) rfl rfl dX3_readClause_5 ?_
  refine ev_callVI dX3_readClause_7 kv_X3_55 ((by have q := k_isWord τ_1 (sk (fun j : Nat => σ.1 2 j) L i) (scan (isA (fun j : Nat => σ.1 2 j)) L (sk (fun j : Nat => σ.1 2 j) L i)) 0 (by decide) g5 g4 hs3 (by omega); rw [hc] at q; exact q)) rfl rfl (ci := 3) rfl rfl ⟨by decide, by decide⟩ (Nat.le_of_ble_eq_true rfl) ?_
  refine ev_w (fun hR => ?_)
  refine ev_if_eq (tgt := 47) dX3_readClause_10 (by decide) (by first | exact hR.1 _ _ | exact hR0.1 _ _ | assumption | exact ⟨by omega, by omega⟩ | exact ⟨by simp [wr_at]; omega, by simp [wr_at]; omega⟩ | exact b2_R _ | exact band_R _ _ | exact bor_R _ _ | exact bshl_R _ _ | exact bshr_R _ _ | exact bxor_R _ _ | exact bs_R (by omega) | decide) (fun h_10 => ?_) (fun h_10 => ?_)
  · refine ev_aload_n dX3_readClause_47 rfl ?_
    refine ev_ldcs (i := 1) (by decide) rfl rfl dX3_readClause_48 ?_
    refine ev_callVI dX3_readClause_50 kv_X3_55 ((by have q := k_isWord τ_1 (sk (fun j : Nat => σ.1 2 j) L i) (scan (isA (fun j : Nat => σ.1 2 j)) L (sk (fun j : Nat => σ.1 2 j) L i)) 1 (by decide) g5 g4 hs3 (by omega); rw [hc] at q; exact q)) rfl rfl (ci := 3) rfl rfl ⟨by decide, by decide⟩ (Nat.le_of_ble_eq_true rfl) ?_
    refine ev_w (fun hR => ?_)
    refine ev_if_eq (tgt := 90) dX3_readClause_53 (by decide) (by first | exact hR.1 _ _ | exact hR0.1 _ _ | assumption | exact ⟨by omega, by omega⟩ | exact ⟨by simp [wr_at]; omega, by simp [wr_at]; omega⟩ | exact b2_R _ | exact band_R _ _ | exact bor_R _ _ | exact bshl_R _ _ | exact bshr_R _ _ | exact bxor_R _ _ | exact bs_R (by omega) | decide) (fun h_53 => ?_) (fun h_53 => ?_)
    · refine ev_aload_n dX3_readClause_90 rfl ?_
      refine ev_ldcs (i := 2) (by decide) rfl rfl dX3_readClause_91 ?_
      refine ev_callVI dX3_readClause_93 kv_X3_55 ((by have q := k_isWord τ_1 (sk (fun j : Nat => σ.1 2 j) L i) (scan (isA (fun j : Nat => σ.1 2 j)) L (sk (fun j : Nat => σ.1 2 j) L i)) 2 (by decide) g5 g4 hs3 (by omega); rw [hc] at q; exact q)) rfl rfl (ci := 3) rfl rfl ⟨by decide, by decide⟩ (Nat.le_of_ble_eq_true rfl) ?_
      refine ev_w (fun hR => ?_)
      refine ev_if_eq (tgt := 132) dX3_readClause_96 (by decide) (by first | exact hR.1 _ _ | exact hR0.1 _ _ | assumption | exact ⟨by omega, by omega⟩ | exact ⟨by simp [wr_at]; omega, by simp [wr_at]; omega⟩ | exact b2_R _ | exact band_R _ _ | exact bor_R _ _ | exact bshl_R _ _ | exact bshr_R _ _ | exact bxor_R _ _ | exact bs_R (by omega) | decide) (fun h_96 => ?_) (fun h_96 => ?_)
      · refine ev_aload_n dX3_readClause_132 rfl ?_
        refine ev_ldcs (i := 3) (by decide) rfl rfl dX3_readClause_133 ?_
        refine ev_callVI dX3_readClause_135 kv_X3_55 ((by have q := k_isWord τ_1 (sk (fun j : Nat => σ.1 2 j) L i) (scan (isA (fun j : Nat => σ.1 2 j)) L (sk (fun j : Nat => σ.1 2 j) L i)) 3 (by decide) g5 g4 hs3 (by omega); rw [hc] at q; exact q)) rfl rfl (ci := 3) rfl rfl ⟨by decide, by decide⟩ (Nat.le_of_ble_eq_true rfl) ?_
        refine ev_w (fun hR => ?_)
        refine ev_if_eq (tgt := 174) dX3_readClause_138 (by decide) (by first | exact hR.1 _ _ | exact hR0.1 _ _ | assumption | exact ⟨by omega, by omega⟩ | exact ⟨by simp [wr_at]; omega, by simp [wr_at]; omega⟩ | exact b2_R _ | exact band_R _ _ | exact bor_R _ _ | exact bshl_R _ _ | exact bshr_R _ _ | exact bxor_R _ _ | exact bs_R (by omega) | decide) (fun h_138 => ?_) (fun h_138 => ?_)
        · refine ev_aload_n dX3_readClause_174 rfl ?_
          refine ev_iconst dX3_readClause_175 ?_
          refine ev_aload_n dX3_readClause_176 rfl ?_
          refine ev_getI (kz := 5) dX3_readClause_177 fl_X3_28 rfl rfl rfl ?_
          rw [g5]
          refine ev_callVI dX3_readClause_180 kv_X3_96 (k_fail τ_1 1 _ (by decide) ⟨by omega, by omega⟩) rfl rfl (ci := 3) rfl rfl ⟨by decide, by decide⟩ (Nat.le_of_ble_eq_true rfl) ?_
          refine ev_w (fun hR => ?_)
          refine ev_ireturn dX3_readClause_183 ?_
          refine ⟨0, rfl, Or.inl ⟨rfl, 1, (sk (fun j : Nat => σ.1 2 j) L i), ?_, hI1.bad (RdA.fail (τ := τ_1) ⟨Same.rf, g2, rfl, g4, g5⟩ 1 _)⟩⟩
          unfold clsR
          rw [if_neg (b2_eq h_10), if_neg (b2_eq h_53), if_neg (b2_eq h_96), if_neg (b2_eq h_138)]
        · have hcl : clsR (fun j : Nat => σ.1 2 j) L d i = if d.1 3 < 4 then endR (fun j : Nat => σ.1 2 j) L (loadR (fun j : Nat => σ.1 2 j) L d (scan (isA (fun j : Nat => σ.1 2 j)) L (sk (fun j : Nat => σ.1 2 j) L i))) else .inl (3, (sk (fun j : Nat => σ.1 2 j) L i)) := by
            unfold clsR
            rw [if_neg (b2_eq h_10), if_neg (b2_eq h_53), if_neg (b2_eq h_96), if_pos (b2_ne h_138)]
          refine ev_aload_n dX3_readClause_141 rfl ?_
          refine ev_aload_n dX3_readClause_142 rfl ?_
          refine ev_getI (kz := 3) dX3_readClause_143 fl_X3_90 (plO hP) rfl rfl ?_
          rw [hc3]
          refine ev_iconst dX3_readClause_146 ?_
          refine ev_callVP dX3_readClause_147 kv_X3_62 (k_room2 τ_1 ((d.1 3 : Nat) : Int) 4 ⟨by omega, by omega⟩ (by decide)) rfl rfl (ci := 3) rfl rfl ⟨by decide, by decide⟩ (Nat.le_of_ble_eq_true rfl) ?_
          rintro v_147 τ_147 ⟨z_147, rfl, hz_147⟩
          refine ev_w (fun hR => ?_)
          refine ev_if_eq (tgt := 172) dX3_readClause_150 (by decide) hz_147.R (fun h_150 => ?_) (fun h_150 => ?_)
          · refine ev_iconst dX3_readClause_172 ?_
            refine ev_ireturn dX3_readClause_173 ?_
            first
              | (obtain ⟨hq, hτ⟩ := hz_147.bad h_150
                 refine ⟨0, rfl, Or.inl ⟨rfl, 3, (sk (fun j : Nat => σ.1 2 j) L i), by rw [hcl, if_neg (by omega)], ?_⟩⟩
                 rw [hτ, g5]
                 exact hI1.bad (RdA.fail (τ := τ_1) ⟨Same.rf, g2, rfl, g4, g5⟩ 3 _))
              | (obtain ⟨f, w, hN, hF⟩ := hz_155.bad h_158
                 refine ⟨0, rfl, Or.inl ⟨rfl, f, w, by rw [hcl2, hN]; rfl, ?_⟩⟩
                 exact ⟨hI1.1.tr hF.1, hF.2.1, hF.2.2.1, hF.2.2.2⟩)
              | (obtain ⟨hq, hτ⟩ := hz_162.bad h_165
                 refine ⟨0, rfl, Or.inl ⟨rfl, 1, _, by rw [hcl3, if_neg hq], ?_⟩⟩
                 rw [hτ]
                 refine ⟨(((hI2.1.wr (Or.inl rfl)).wr (Or.inl rfl)).wr (Or.inl rfl)), ?_, ?_, wr_eq _ _ _ _⟩
                 · rw [wr_nek _ (by decide), wr_nek _ (by decide), wr_nek _ (by decide)]; exact hI2.2.1
                 · rw [wr_nek _ (by decide), wr_eq])
              | (obtain ⟨hq, hτ⟩ := hz_162.ok h_165
                 refine ⟨1, rfl, Or.inr ⟨rfl, d2, _, by rw [hcl3, if_pos hq], ?_⟩⟩
                 rw [hτ]
                 have hs9 : Same S1 τ_155 (wr τ_155 1 4 (sk (fun j : Nat => σ.1 2 j) L e2 + 1 : Nat)) := Same.wr (S := S1) Same.rf rfl
                 refine ⟨hI2.1.wr (Or.inl rfl), ?_, ?_, wr_eq _ _ _ _, hB2.2.2.2.2.1.same1 hs9 hP, hB2.2.2.2.2.2.same1 hs9 hP⟩
                 · rw [wr_nek _ (by decide)]; exact hI2.2.1
                 · rw [wr_nek _ (by decide)]; exact hI2.2.2.1)
          · obtain ⟨hf, rfl⟩ := hz_147.ok h_150
            have hf2 : d.1 3 < 4 := by omega
            have hcl2 : clsR (fun j : Nat => σ.1 2 j) L d i = endR (fun j : Nat => σ.1 2 j) L (loadR (fun j : Nat => σ.1 2 j) L d (scan (isA (fun j : Nat => σ.1 2 j)) L (sk (fun j : Nat => σ.1 2 j) L i))) := by rw [hcl, if_pos hf2]
            refine ev_aload_n dX3_readClause_153 rfl ?_
            refine ev_aload_n dX3_readClause_154 rfl ?_
            refine ev_callVP dX3_readClause_155 kv_X3_93 (k_bLoad hI1 hP hL5 (by omega) hD1 hA1 hK hf2) rfl rfl (ci := 3) rfl rfl ⟨by decide, by decide⟩ (Nat.le_of_ble_eq_true rfl) ?_
            rintro v_155 τ_155 ⟨z_155, rfl, hz_155⟩
            refine ev_w (fun hR => ?_)
            refine ev_if_eq (tgt := 172) dX3_readClause_158 (by decide) hz_155.R (fun h_158 => ?_) (fun h_158 => ?_)
            · refine ev_iconst dX3_readClause_172 ?_
              refine ev_ireturn dX3_readClause_173 ?_
              first
                | (obtain ⟨hq, hτ⟩ := hz_147.bad h_150
                   refine ⟨0, rfl, Or.inl ⟨rfl, 3, (sk (fun j : Nat => σ.1 2 j) L i), by rw [hcl, if_neg (by omega)], ?_⟩⟩
                   rw [hτ, g5]
                   exact hI1.bad (RdA.fail (τ := τ_1) ⟨Same.rf, g2, rfl, g4, g5⟩ 3 _))
                | (obtain ⟨f, w, hN, hF⟩ := hz_155.bad h_158
                   refine ⟨0, rfl, Or.inl ⟨rfl, f, w, by rw [hcl2, hN]; rfl, ?_⟩⟩
                   exact ⟨hI1.1.tr hF.1, hF.2.1, hF.2.2.1, hF.2.2.2⟩)
                | (obtain ⟨hq, hτ⟩ := hz_162.bad h_165
                   refine ⟨0, rfl, Or.inl ⟨rfl, 1, _, by rw [hcl3, if_neg hq], ?_⟩⟩
                   rw [hτ]
                   refine ⟨(((hI2.1.wr (Or.inl rfl)).wr (Or.inl rfl)).wr (Or.inl rfl)), ?_, ?_, wr_eq _ _ _ _⟩
                   · rw [wr_nek _ (by decide), wr_nek _ (by decide), wr_nek _ (by decide)]; exact hI2.2.1
                   · rw [wr_nek _ (by decide), wr_eq])
                | (obtain ⟨hq, hτ⟩ := hz_162.ok h_165
                   refine ⟨1, rfl, Or.inr ⟨rfl, d2, _, by rw [hcl3, if_pos hq], ?_⟩⟩
                   rw [hτ]
                   have hs9 : Same S1 τ_155 (wr τ_155 1 4 (sk (fun j : Nat => σ.1 2 j) L e2 + 1 : Nat)) := Same.wr (S := S1) Same.rf rfl
                   refine ⟨hI2.1.wr (Or.inl rfl), ?_, ?_, wr_eq _ _ _ _, hB2.2.2.2.2.1.same1 hs9 hP, hB2.2.2.2.2.2.same1 hs9 hP⟩
                   · rw [wr_nek _ (by decide)]; exact hI2.2.1
                   · rw [wr_nek _ (by decide)]; exact hI2.2.2.1)
            · obtain ⟨d2, e2, hR2, hB2⟩ := hz_155.ok h_158
              have hok := loadR_ok hK hf2 hR2 hs4
              have hI2 : RdI σ τ_155 P L e2 := ⟨hI1.1.tr hB2.1, hB2.2.1, hB2.2.2.1.trans hI1.2.2.1, hB2.2.2.2.1⟩
              have hcl3 : clsR (fun j : Nat => σ.1 2 j) L d i = if sk (fun j : Nat => σ.1 2 j) L e2 < L ∧ (fun j : Nat => σ.1 2 j) (sk (fun j : Nat => σ.1 2 j) L e2) = 59 then .inr (d2, sk (fun j : Nat => σ.1 2 j) L e2 + 1) else .inl (1, sk (fun j : Nat => σ.1 2 j) L e2) := by rw [hcl2, hR2]; rfl
              refine ev_aload_n dX3_readClause_161 rfl ?_
              refine ev_callVP dX3_readClause_162 kv_X3_69 (k_endI hI2 hP hL5 hok.2.2) rfl rfl (ci := 3) rfl rfl ⟨by decide, by decide⟩ (Nat.le_of_ble_eq_true rfl) ?_
              rintro v_162 τ_162 ⟨z_162, rfl, hz_162⟩
              refine ev_w (fun hR => ?_)
              refine ev_if_eq (tgt := 172) dX3_readClause_165 (by decide) hz_162.R (fun h_165 => ?_) (fun h_165 => ?_)
              · refine ev_iconst dX3_readClause_172 ?_
                refine ev_ireturn dX3_readClause_173 ?_
                first
                  | (obtain ⟨hq, hτ⟩ := hz_147.bad h_150
                     refine ⟨0, rfl, Or.inl ⟨rfl, 3, (sk (fun j : Nat => σ.1 2 j) L i), by rw [hcl, if_neg (by omega)], ?_⟩⟩
                     rw [hτ, g5]
                     exact hI1.bad (RdA.fail (τ := τ_1) ⟨Same.rf, g2, rfl, g4, g5⟩ 3 _))
                  | (obtain ⟨f, w, hN, hF⟩ := hz_155.bad h_158
                     refine ⟨0, rfl, Or.inl ⟨rfl, f, w, by rw [hcl2, hN]; rfl, ?_⟩⟩
                     exact ⟨hI1.1.tr hF.1, hF.2.1, hF.2.2.1, hF.2.2.2⟩)
                  | (obtain ⟨hq, hτ⟩ := hz_162.bad h_165
                     refine ⟨0, rfl, Or.inl ⟨rfl, 1, _, by rw [hcl3, if_neg hq], ?_⟩⟩
                     rw [hτ]
                     refine ⟨(((hI2.1.wr (Or.inl rfl)).wr (Or.inl rfl)).wr (Or.inl rfl)), ?_, ?_, wr_eq _ _ _ _⟩
                     · rw [wr_nek _ (by decide), wr_nek _ (by decide), wr_nek _ (by decide)]; exact hI2.2.1
                     · rw [wr_nek _ (by decide), wr_eq])
                  | (obtain ⟨hq, hτ⟩ := hz_162.ok h_165
                     refine ⟨1, rfl, Or.inr ⟨rfl, d2, _, by rw [hcl3, if_pos hq], ?_⟩⟩
                     rw [hτ]
                     have hs9 : Same S1 τ_155 (wr τ_155 1 4 (sk (fun j : Nat => σ.1 2 j) L e2 + 1 : Nat)) := Same.wr (S := S1) Same.rf rfl
                     refine ⟨hI2.1.wr (Or.inl rfl), ?_, ?_, wr_eq _ _ _ _, hB2.2.2.2.2.1.same1 hs9 hP, hB2.2.2.2.2.2.same1 hs9 hP⟩
                     · rw [wr_nek _ (by decide)]; exact hI2.2.1
                     · rw [wr_nek _ (by decide)]; exact hI2.2.2.1)
              · refine ev_iconst dX3_readClause_168 ?_
                refine ev_goto (tgt := 173) dX3_readClause_169 (by decide) ?_
                refine ev_ireturn dX3_readClause_173 ?_
                first
                  | (obtain ⟨hq, hτ⟩ := hz_147.bad h_150
                     refine ⟨0, rfl, Or.inl ⟨rfl, 3, (sk (fun j : Nat => σ.1 2 j) L i), by rw [hcl, if_neg (by omega)], ?_⟩⟩
                     rw [hτ, g5]
                     exact hI1.bad (RdA.fail (τ := τ_1) ⟨Same.rf, g2, rfl, g4, g5⟩ 3 _))
                  | (obtain ⟨f, w, hN, hF⟩ := hz_155.bad h_158
                     refine ⟨0, rfl, Or.inl ⟨rfl, f, w, by rw [hcl2, hN]; rfl, ?_⟩⟩
                     exact ⟨hI1.1.tr hF.1, hF.2.1, hF.2.2.1, hF.2.2.2⟩)
                  | (obtain ⟨hq, hτ⟩ := hz_162.bad h_165
                     refine ⟨0, rfl, Or.inl ⟨rfl, 1, _, by rw [hcl3, if_neg hq], ?_⟩⟩
                     rw [hτ]
                     refine ⟨(((hI2.1.wr (Or.inl rfl)).wr (Or.inl rfl)).wr (Or.inl rfl)), ?_, ?_, wr_eq _ _ _ _⟩
                     · rw [wr_nek _ (by decide), wr_nek _ (by decide), wr_nek _ (by decide)]; exact hI2.2.1
                     · rw [wr_nek _ (by decide), wr_eq])
                  | (obtain ⟨hq, hτ⟩ := hz_162.ok h_165
                     refine ⟨1, rfl, Or.inr ⟨rfl, d2, _, by rw [hcl3, if_pos hq], ?_⟩⟩
                     rw [hτ]
                     have hs9 : Same S1 τ_155 (wr τ_155 1 4 (sk (fun j : Nat => σ.1 2 j) L e2 + 1 : Nat)) := Same.wr (S := S1) Same.rf rfl
                     refine ⟨hI2.1.wr (Or.inl rfl), ?_, ?_, wr_eq _ _ _ _, hB2.2.2.2.2.1.same1 hs9 hP, hB2.2.2.2.2.2.same1 hs9 hP⟩
                     · rw [wr_nek _ (by decide)]; exact hI2.2.1
                     · rw [wr_nek _ (by decide)]; exact hI2.2.2.1)
      · have hcl : clsR (fun j : Nat => σ.1 2 j) L d i = if d.1 2 < 4 then endR (fun j : Nat => σ.1 2 j) L (boyR (fun j : Nat => σ.1 2 j) L d (scan (isA (fun j : Nat => σ.1 2 j)) L (sk (fun j : Nat => σ.1 2 j) L i))) else .inl (3, (sk (fun j : Nat => σ.1 2 j) L i)) := by
          unfold clsR
          rw [if_neg (b2_eq h_10), if_neg (b2_eq h_53), if_pos (b2_ne h_96)]
        refine ev_aload_n dX3_readClause_99 rfl ?_
        refine ev_aload_n dX3_readClause_100 rfl ?_
        refine ev_getI (kz := 2) dX3_readClause_101 fl_X3_82 (plO hP) rfl rfl ?_
        rw [hc2]
        refine ev_iconst dX3_readClause_104 ?_
        refine ev_callVP dX3_readClause_105 kv_X3_62 (k_room2 τ_1 ((d.1 2 : Nat) : Int) 4 ⟨by omega, by omega⟩ (by decide)) rfl rfl (ci := 3) rfl rfl ⟨by decide, by decide⟩ (Nat.le_of_ble_eq_true rfl) ?_
        rintro v_105 τ_105 ⟨z_105, rfl, hz_105⟩
        refine ev_w (fun hR => ?_)
        refine ev_if_eq (tgt := 130) dX3_readClause_108 (by decide) hz_105.R (fun h_108 => ?_) (fun h_108 => ?_)
        · refine ev_iconst dX3_readClause_130 ?_
          refine ev_ireturn dX3_readClause_131 ?_
          first
            | (obtain ⟨hq, hτ⟩ := hz_105.bad h_108
               refine ⟨0, rfl, Or.inl ⟨rfl, 3, (sk (fun j : Nat => σ.1 2 j) L i), by rw [hcl, if_neg (by omega)], ?_⟩⟩
               rw [hτ, g5]
               exact hI1.bad (RdA.fail (τ := τ_1) ⟨Same.rf, g2, rfl, g4, g5⟩ 3 _))
            | (obtain ⟨f, w, hN, hF⟩ := hz_113.bad h_116
               refine ⟨0, rfl, Or.inl ⟨rfl, f, w, by rw [hcl2, hN]; rfl, ?_⟩⟩
               exact ⟨hI1.1.tr hF.1, hF.2.1, hF.2.2.1, hF.2.2.2⟩)
            | (obtain ⟨hq, hτ⟩ := hz_120.bad h_123
               refine ⟨0, rfl, Or.inl ⟨rfl, 1, _, by rw [hcl3, if_neg hq], ?_⟩⟩
               rw [hτ]
               refine ⟨(((hI2.1.wr (Or.inl rfl)).wr (Or.inl rfl)).wr (Or.inl rfl)), ?_, ?_, wr_eq _ _ _ _⟩
               · rw [wr_nek _ (by decide), wr_nek _ (by decide), wr_nek _ (by decide)]; exact hI2.2.1
               · rw [wr_nek _ (by decide), wr_eq])
            | (obtain ⟨hq, hτ⟩ := hz_120.ok h_123
               refine ⟨1, rfl, Or.inr ⟨rfl, d2, _, by rw [hcl3, if_pos hq], ?_⟩⟩
               rw [hτ]
               have hs9 : Same S1 τ_113 (wr τ_113 1 4 (sk (fun j : Nat => σ.1 2 j) L e2 + 1 : Nat)) := Same.wr (S := S1) Same.rf rfl
               refine ⟨hI2.1.wr (Or.inl rfl), ?_, ?_, wr_eq _ _ _ _, hB2.2.2.2.2.1.same1 hs9 hP, hB2.2.2.2.2.2.same1 hs9 hP⟩
               · rw [wr_nek _ (by decide)]; exact hI2.2.1
               · rw [wr_nek _ (by decide)]; exact hI2.2.2.1)
        · obtain ⟨hf, rfl⟩ := hz_105.ok h_108
          have hf2 : d.1 2 < 4 := by omega
          have hcl2 : clsR (fun j : Nat => σ.1 2 j) L d i = endR (fun j : Nat => σ.1 2 j) L (boyR (fun j : Nat => σ.1 2 j) L d (scan (isA (fun j : Nat => σ.1 2 j)) L (sk (fun j : Nat => σ.1 2 j) L i))) := by rw [hcl, if_pos hf2]
          refine ev_aload_n dX3_readClause_111 rfl ?_
          refine ev_aload_n dX3_readClause_112 rfl ?_
          refine ev_callVP dX3_readClause_113 kv_X3_85 (k_bBoy hI1 hP hL5 (by omega) hD1 hA1 hK hf2) rfl rfl (ci := 3) rfl rfl ⟨by decide, by decide⟩ (Nat.le_of_ble_eq_true rfl) ?_
          rintro v_113 τ_113 ⟨z_113, rfl, hz_113⟩
          refine ev_w (fun hR => ?_)
          refine ev_if_eq (tgt := 130) dX3_readClause_116 (by decide) hz_113.R (fun h_116 => ?_) (fun h_116 => ?_)
          · refine ev_iconst dX3_readClause_130 ?_
            refine ev_ireturn dX3_readClause_131 ?_
            first
              | (obtain ⟨hq, hτ⟩ := hz_105.bad h_108
                 refine ⟨0, rfl, Or.inl ⟨rfl, 3, (sk (fun j : Nat => σ.1 2 j) L i), by rw [hcl, if_neg (by omega)], ?_⟩⟩
                 rw [hτ, g5]
                 exact hI1.bad (RdA.fail (τ := τ_1) ⟨Same.rf, g2, rfl, g4, g5⟩ 3 _))
              | (obtain ⟨f, w, hN, hF⟩ := hz_113.bad h_116
                 refine ⟨0, rfl, Or.inl ⟨rfl, f, w, by rw [hcl2, hN]; rfl, ?_⟩⟩
                 exact ⟨hI1.1.tr hF.1, hF.2.1, hF.2.2.1, hF.2.2.2⟩)
              | (obtain ⟨hq, hτ⟩ := hz_120.bad h_123
                 refine ⟨0, rfl, Or.inl ⟨rfl, 1, _, by rw [hcl3, if_neg hq], ?_⟩⟩
                 rw [hτ]
                 refine ⟨(((hI2.1.wr (Or.inl rfl)).wr (Or.inl rfl)).wr (Or.inl rfl)), ?_, ?_, wr_eq _ _ _ _⟩
                 · rw [wr_nek _ (by decide), wr_nek _ (by decide), wr_nek _ (by decide)]; exact hI2.2.1
                 · rw [wr_nek _ (by decide), wr_eq])
              | (obtain ⟨hq, hτ⟩ := hz_120.ok h_123
                 refine ⟨1, rfl, Or.inr ⟨rfl, d2, _, by rw [hcl3, if_pos hq], ?_⟩⟩
                 rw [hτ]
                 have hs9 : Same S1 τ_113 (wr τ_113 1 4 (sk (fun j : Nat => σ.1 2 j) L e2 + 1 : Nat)) := Same.wr (S := S1) Same.rf rfl
                 refine ⟨hI2.1.wr (Or.inl rfl), ?_, ?_, wr_eq _ _ _ _, hB2.2.2.2.2.1.same1 hs9 hP, hB2.2.2.2.2.2.same1 hs9 hP⟩
                 · rw [wr_nek _ (by decide)]; exact hI2.2.1
                 · rw [wr_nek _ (by decide)]; exact hI2.2.2.1)
          · obtain ⟨d2, e2, hR2, hB2⟩ := hz_113.ok h_116
            have hok := boyR_ok hK hf2 hR2 hs4
            have hI2 : RdI σ τ_113 P L e2 := ⟨hI1.1.tr hB2.1, hB2.2.1, hB2.2.2.1.trans hI1.2.2.1, hB2.2.2.2.1⟩
            have hcl3 : clsR (fun j : Nat => σ.1 2 j) L d i = if sk (fun j : Nat => σ.1 2 j) L e2 < L ∧ (fun j : Nat => σ.1 2 j) (sk (fun j : Nat => σ.1 2 j) L e2) = 59 then .inr (d2, sk (fun j : Nat => σ.1 2 j) L e2 + 1) else .inl (1, sk (fun j : Nat => σ.1 2 j) L e2) := by rw [hcl2, hR2]; rfl
            refine ev_aload_n dX3_readClause_119 rfl ?_
            refine ev_callVP dX3_readClause_120 kv_X3_69 (k_endI hI2 hP hL5 hok.2.2) rfl rfl (ci := 3) rfl rfl ⟨by decide, by decide⟩ (Nat.le_of_ble_eq_true rfl) ?_
            rintro v_120 τ_120 ⟨z_120, rfl, hz_120⟩
            refine ev_w (fun hR => ?_)
            refine ev_if_eq (tgt := 130) dX3_readClause_123 (by decide) hz_120.R (fun h_123 => ?_) (fun h_123 => ?_)
            · refine ev_iconst dX3_readClause_130 ?_
              refine ev_ireturn dX3_readClause_131 ?_
              first
                | (obtain ⟨hq, hτ⟩ := hz_105.bad h_108
                   refine ⟨0, rfl, Or.inl ⟨rfl, 3, (sk (fun j : Nat => σ.1 2 j) L i), by rw [hcl, if_neg (by omega)], ?_⟩⟩
                   rw [hτ, g5]
                   exact hI1.bad (RdA.fail (τ := τ_1) ⟨Same.rf, g2, rfl, g4, g5⟩ 3 _))
                | (obtain ⟨f, w, hN, hF⟩ := hz_113.bad h_116
                   refine ⟨0, rfl, Or.inl ⟨rfl, f, w, by rw [hcl2, hN]; rfl, ?_⟩⟩
                   exact ⟨hI1.1.tr hF.1, hF.2.1, hF.2.2.1, hF.2.2.2⟩)
                | (obtain ⟨hq, hτ⟩ := hz_120.bad h_123
                   refine ⟨0, rfl, Or.inl ⟨rfl, 1, _, by rw [hcl3, if_neg hq], ?_⟩⟩
                   rw [hτ]
                   refine ⟨(((hI2.1.wr (Or.inl rfl)).wr (Or.inl rfl)).wr (Or.inl rfl)), ?_, ?_, wr_eq _ _ _ _⟩
                   · rw [wr_nek _ (by decide), wr_nek _ (by decide), wr_nek _ (by decide)]; exact hI2.2.1
                   · rw [wr_nek _ (by decide), wr_eq])
                | (obtain ⟨hq, hτ⟩ := hz_120.ok h_123
                   refine ⟨1, rfl, Or.inr ⟨rfl, d2, _, by rw [hcl3, if_pos hq], ?_⟩⟩
                   rw [hτ]
                   have hs9 : Same S1 τ_113 (wr τ_113 1 4 (sk (fun j : Nat => σ.1 2 j) L e2 + 1 : Nat)) := Same.wr (S := S1) Same.rf rfl
                   refine ⟨hI2.1.wr (Or.inl rfl), ?_, ?_, wr_eq _ _ _ _, hB2.2.2.2.2.1.same1 hs9 hP, hB2.2.2.2.2.2.same1 hs9 hP⟩
                   · rw [wr_nek _ (by decide)]; exact hI2.2.1
                   · rw [wr_nek _ (by decide)]; exact hI2.2.2.1)
            · refine ev_iconst dX3_readClause_126 ?_
              refine ev_goto (tgt := 131) dX3_readClause_127 (by decide) ?_
              refine ev_ireturn dX3_readClause_131 ?_
              first
                | (obtain ⟨hq, hτ⟩ := hz_105.bad h_108
                   refine ⟨0, rfl, Or.inl ⟨rfl, 3, (sk (fun j : Nat => σ.1 2 j) L i), by rw [hcl, if_neg (by omega)], ?_⟩⟩
                   rw [hτ, g5]
                   exact hI1.bad (RdA.fail (τ := τ_1) ⟨Same.rf, g2, rfl, g4, g5⟩ 3 _))
                | (obtain ⟨f, w, hN, hF⟩ := hz_113.bad h_116
                   refine ⟨0, rfl, Or.inl ⟨rfl, f, w, by rw [hcl2, hN]; rfl, ?_⟩⟩
                   exact ⟨hI1.1.tr hF.1, hF.2.1, hF.2.2.1, hF.2.2.2⟩)
                | (obtain ⟨hq, hτ⟩ := hz_120.bad h_123
                   refine ⟨0, rfl, Or.inl ⟨rfl, 1, _, by rw [hcl3, if_neg hq], ?_⟩⟩
                   rw [hτ]
                   refine ⟨(((hI2.1.wr (Or.inl rfl)).wr (Or.inl rfl)).wr (Or.inl rfl)), ?_, ?_, wr_eq _ _ _ _⟩
                   · rw [wr_nek _ (by decide), wr_nek _ (by decide), wr_nek _ (by decide)]; exact hI2.2.1
                   · rw [wr_nek _ (by decide), wr_eq])
                | (obtain ⟨hq, hτ⟩ := hz_120.ok h_123
                   refine ⟨1, rfl, Or.inr ⟨rfl, d2, _, by rw [hcl3, if_pos hq], ?_⟩⟩
                   rw [hτ]
                   have hs9 : Same S1 τ_113 (wr τ_113 1 4 (sk (fun j : Nat => σ.1 2 j) L e2 + 1 : Nat)) := Same.wr (S := S1) Same.rf rfl
                   refine ⟨hI2.1.wr (Or.inl rfl), ?_, ?_, wr_eq _ _ _ _, hB2.2.2.2.2.1.same1 hs9 hP, hB2.2.2.2.2.2.same1 hs9 hP⟩
                   · rw [wr_nek _ (by decide)]; exact hI2.2.1
                   · rw [wr_nek _ (by decide)]; exact hI2.2.2.1)
    · have hcl : clsR (fun j : Nat => σ.1 2 j) L d i = if d.1 1 < 12 then endR (fun j : Nat => σ.1 2 j) L (ropeR (fun j : Nat => σ.1 2 j) L d (scan (isA (fun j : Nat => σ.1 2 j)) L (sk (fun j : Nat => σ.1 2 j) L i))) else .inl (3, (sk (fun j : Nat => σ.1 2 j) L i)) := by
        unfold clsR
        rw [if_neg (b2_eq h_10), if_pos (b2_ne h_53)]
      refine ev_aload_n dX3_readClause_56 rfl ?_
      refine ev_aload_n dX3_readClause_57 rfl ?_
      refine ev_getI (kz := 1) dX3_readClause_58 fl_X3_74 (plO hP) rfl rfl ?_
      rw [hc1]
      refine ev_bipush dX3_readClause_61 (by decide) ?_
      refine ev_callVP dX3_readClause_63 kv_X3_62 (k_room2 τ_1 ((d.1 1 : Nat) : Int) 12 ⟨by omega, by omega⟩ (by decide)) rfl rfl (ci := 3) rfl rfl ⟨by decide, by decide⟩ (Nat.le_of_ble_eq_true rfl) ?_
      rintro v_63 τ_63 ⟨z_63, rfl, hz_63⟩
      refine ev_w (fun hR => ?_)
      refine ev_if_eq (tgt := 88) dX3_readClause_66 (by decide) hz_63.R (fun h_66 => ?_) (fun h_66 => ?_)
      · refine ev_iconst dX3_readClause_88 ?_
        refine ev_ireturn dX3_readClause_89 ?_
        first
          | (obtain ⟨hq, hτ⟩ := hz_63.bad h_66
             refine ⟨0, rfl, Or.inl ⟨rfl, 3, (sk (fun j : Nat => σ.1 2 j) L i), by rw [hcl, if_neg (by omega)], ?_⟩⟩
             rw [hτ, g5]
             exact hI1.bad (RdA.fail (τ := τ_1) ⟨Same.rf, g2, rfl, g4, g5⟩ 3 _))
          | (obtain ⟨f, w, hN, hF⟩ := hz_71.bad h_74
             refine ⟨0, rfl, Or.inl ⟨rfl, f, w, by rw [hcl2, hN]; rfl, ?_⟩⟩
             exact ⟨hI1.1.tr hF.1, hF.2.1, hF.2.2.1, hF.2.2.2⟩)
          | (obtain ⟨hq, hτ⟩ := hz_78.bad h_81
             refine ⟨0, rfl, Or.inl ⟨rfl, 1, _, by rw [hcl3, if_neg hq], ?_⟩⟩
             rw [hτ]
             refine ⟨(((hI2.1.wr (Or.inl rfl)).wr (Or.inl rfl)).wr (Or.inl rfl)), ?_, ?_, wr_eq _ _ _ _⟩
             · rw [wr_nek _ (by decide), wr_nek _ (by decide), wr_nek _ (by decide)]; exact hI2.2.1
             · rw [wr_nek _ (by decide), wr_eq])
          | (obtain ⟨hq, hτ⟩ := hz_78.ok h_81
             refine ⟨1, rfl, Or.inr ⟨rfl, d2, _, by rw [hcl3, if_pos hq], ?_⟩⟩
             rw [hτ]
             have hs9 : Same S1 τ_71 (wr τ_71 1 4 (sk (fun j : Nat => σ.1 2 j) L e2 + 1 : Nat)) := Same.wr (S := S1) Same.rf rfl
             refine ⟨hI2.1.wr (Or.inl rfl), ?_, ?_, wr_eq _ _ _ _, hB2.2.2.2.2.1.same1 hs9 hP, hB2.2.2.2.2.2.same1 hs9 hP⟩
             · rw [wr_nek _ (by decide)]; exact hI2.2.1
             · rw [wr_nek _ (by decide)]; exact hI2.2.2.1)
      · obtain ⟨hf, rfl⟩ := hz_63.ok h_66
        have hf2 : d.1 1 < 12 := by omega
        have hcl2 : clsR (fun j : Nat => σ.1 2 j) L d i = endR (fun j : Nat => σ.1 2 j) L (ropeR (fun j : Nat => σ.1 2 j) L d (scan (isA (fun j : Nat => σ.1 2 j)) L (sk (fun j : Nat => σ.1 2 j) L i))) := by rw [hcl, if_pos hf2]
        refine ev_aload_n dX3_readClause_69 rfl ?_
        refine ev_aload_n dX3_readClause_70 rfl ?_
        refine ev_callVP dX3_readClause_71 kv_X3_77 (k_bRope hI1 hP hL5 (by omega) hD1 hA1 hK hf2) rfl rfl (ci := 3) rfl rfl ⟨by decide, by decide⟩ (Nat.le_of_ble_eq_true rfl) ?_
        rintro v_71 τ_71 ⟨z_71, rfl, hz_71⟩
        refine ev_w (fun hR => ?_)
        refine ev_if_eq (tgt := 88) dX3_readClause_74 (by decide) hz_71.R (fun h_74 => ?_) (fun h_74 => ?_)
        · refine ev_iconst dX3_readClause_88 ?_
          refine ev_ireturn dX3_readClause_89 ?_
          first
            | (obtain ⟨hq, hτ⟩ := hz_63.bad h_66
               refine ⟨0, rfl, Or.inl ⟨rfl, 3, (sk (fun j : Nat => σ.1 2 j) L i), by rw [hcl, if_neg (by omega)], ?_⟩⟩
               rw [hτ, g5]
               exact hI1.bad (RdA.fail (τ := τ_1) ⟨Same.rf, g2, rfl, g4, g5⟩ 3 _))
            | (obtain ⟨f, w, hN, hF⟩ := hz_71.bad h_74
               refine ⟨0, rfl, Or.inl ⟨rfl, f, w, by rw [hcl2, hN]; rfl, ?_⟩⟩
               exact ⟨hI1.1.tr hF.1, hF.2.1, hF.2.2.1, hF.2.2.2⟩)
            | (obtain ⟨hq, hτ⟩ := hz_78.bad h_81
               refine ⟨0, rfl, Or.inl ⟨rfl, 1, _, by rw [hcl3, if_neg hq], ?_⟩⟩
               rw [hτ]
               refine ⟨(((hI2.1.wr (Or.inl rfl)).wr (Or.inl rfl)).wr (Or.inl rfl)), ?_, ?_, wr_eq _ _ _ _⟩
               · rw [wr_nek _ (by decide), wr_nek _ (by decide), wr_nek _ (by decide)]; exact hI2.2.1
               · rw [wr_nek _ (by decide), wr_eq])
            | (obtain ⟨hq, hτ⟩ := hz_78.ok h_81
               refine ⟨1, rfl, Or.inr ⟨rfl, d2, _, by rw [hcl3, if_pos hq], ?_⟩⟩
               rw [hτ]
               have hs9 : Same S1 τ_71 (wr τ_71 1 4 (sk (fun j : Nat => σ.1 2 j) L e2 + 1 : Nat)) := Same.wr (S := S1) Same.rf rfl
               refine ⟨hI2.1.wr (Or.inl rfl), ?_, ?_, wr_eq _ _ _ _, hB2.2.2.2.2.1.same1 hs9 hP, hB2.2.2.2.2.2.same1 hs9 hP⟩
               · rw [wr_nek _ (by decide)]; exact hI2.2.1
               · rw [wr_nek _ (by decide)]; exact hI2.2.2.1)
        · obtain ⟨d2, e2, hR2, hB2⟩ := hz_71.ok h_74
          have hok := ropeR_ok hK hf2 hR2 hs4
          have hI2 : RdI σ τ_71 P L e2 := ⟨hI1.1.tr hB2.1, hB2.2.1, hB2.2.2.1.trans hI1.2.2.1, hB2.2.2.2.1⟩
          have hcl3 : clsR (fun j : Nat => σ.1 2 j) L d i = if sk (fun j : Nat => σ.1 2 j) L e2 < L ∧ (fun j : Nat => σ.1 2 j) (sk (fun j : Nat => σ.1 2 j) L e2) = 59 then .inr (d2, sk (fun j : Nat => σ.1 2 j) L e2 + 1) else .inl (1, sk (fun j : Nat => σ.1 2 j) L e2) := by rw [hcl2, hR2]; rfl
          refine ev_aload_n dX3_readClause_77 rfl ?_
          refine ev_callVP dX3_readClause_78 kv_X3_69 (k_endI hI2 hP hL5 hok.2.2) rfl rfl (ci := 3) rfl rfl ⟨by decide, by decide⟩ (Nat.le_of_ble_eq_true rfl) ?_
          rintro v_78 τ_78 ⟨z_78, rfl, hz_78⟩
          refine ev_w (fun hR => ?_)
          refine ev_if_eq (tgt := 88) dX3_readClause_81 (by decide) hz_78.R (fun h_81 => ?_) (fun h_81 => ?_)
          · refine ev_iconst dX3_readClause_88 ?_
            refine ev_ireturn dX3_readClause_89 ?_
            first
              | (obtain ⟨hq, hτ⟩ := hz_63.bad h_66
                 refine ⟨0, rfl, Or.inl ⟨rfl, 3, (sk (fun j : Nat => σ.1 2 j) L i), by rw [hcl, if_neg (by omega)], ?_⟩⟩
                 rw [hτ, g5]
                 exact hI1.bad (RdA.fail (τ := τ_1) ⟨Same.rf, g2, rfl, g4, g5⟩ 3 _))
              | (obtain ⟨f, w, hN, hF⟩ := hz_71.bad h_74
                 refine ⟨0, rfl, Or.inl ⟨rfl, f, w, by rw [hcl2, hN]; rfl, ?_⟩⟩
                 exact ⟨hI1.1.tr hF.1, hF.2.1, hF.2.2.1, hF.2.2.2⟩)
              | (obtain ⟨hq, hτ⟩ := hz_78.bad h_81
                 refine ⟨0, rfl, Or.inl ⟨rfl, 1, _, by rw [hcl3, if_neg hq], ?_⟩⟩
                 rw [hτ]
                 refine ⟨(((hI2.1.wr (Or.inl rfl)).wr (Or.inl rfl)).wr (Or.inl rfl)), ?_, ?_, wr_eq _ _ _ _⟩
                 · rw [wr_nek _ (by decide), wr_nek _ (by decide), wr_nek _ (by decide)]; exact hI2.2.1
                 · rw [wr_nek _ (by decide), wr_eq])
              | (obtain ⟨hq, hτ⟩ := hz_78.ok h_81
                 refine ⟨1, rfl, Or.inr ⟨rfl, d2, _, by rw [hcl3, if_pos hq], ?_⟩⟩
                 rw [hτ]
                 have hs9 : Same S1 τ_71 (wr τ_71 1 4 (sk (fun j : Nat => σ.1 2 j) L e2 + 1 : Nat)) := Same.wr (S := S1) Same.rf rfl
                 refine ⟨hI2.1.wr (Or.inl rfl), ?_, ?_, wr_eq _ _ _ _, hB2.2.2.2.2.1.same1 hs9 hP, hB2.2.2.2.2.2.same1 hs9 hP⟩
                 · rw [wr_nek _ (by decide)]; exact hI2.2.1
                 · rw [wr_nek _ (by decide)]; exact hI2.2.2.1)
          · refine ev_iconst dX3_readClause_84 ?_
            refine ev_goto (tgt := 89) dX3_readClause_85 (by decide) ?_
            refine ev_ireturn dX3_readClause_89 ?_
            first
              | (obtain ⟨hq, hτ⟩ := hz_63.bad h_66
                 refine ⟨0, rfl, Or.inl ⟨rfl, 3, (sk (fun j : Nat => σ.1 2 j) L i), by rw [hcl, if_neg (by omega)], ?_⟩⟩
                 rw [hτ, g5]
                 exact hI1.bad (RdA.fail (τ := τ_1) ⟨Same.rf, g2, rfl, g4, g5⟩ 3 _))
              | (obtain ⟨f, w, hN, hF⟩ := hz_71.bad h_74
                 refine ⟨0, rfl, Or.inl ⟨rfl, f, w, by rw [hcl2, hN]; rfl, ?_⟩⟩
                 exact ⟨hI1.1.tr hF.1, hF.2.1, hF.2.2.1, hF.2.2.2⟩)
              | (obtain ⟨hq, hτ⟩ := hz_78.bad h_81
                 refine ⟨0, rfl, Or.inl ⟨rfl, 1, _, by rw [hcl3, if_neg hq], ?_⟩⟩
                 rw [hτ]
                 refine ⟨(((hI2.1.wr (Or.inl rfl)).wr (Or.inl rfl)).wr (Or.inl rfl)), ?_, ?_, wr_eq _ _ _ _⟩
                 · rw [wr_nek _ (by decide), wr_nek _ (by decide), wr_nek _ (by decide)]; exact hI2.2.1
                 · rw [wr_nek _ (by decide), wr_eq])
              | (obtain ⟨hq, hτ⟩ := hz_78.ok h_81
                 refine ⟨1, rfl, Or.inr ⟨rfl, d2, _, by rw [hcl3, if_pos hq], ?_⟩⟩
                 rw [hτ]
                 have hs9 : Same S1 τ_71 (wr τ_71 1 4 (sk (fun j : Nat => σ.1 2 j) L e2 + 1 : Nat)) := Same.wr (S := S1) Same.rf rfl
                 refine ⟨hI2.1.wr (Or.inl rfl), ?_, ?_, wr_eq _ _ _ _, hB2.2.2.2.2.1.same1 hs9 hP, hB2.2.2.2.2.2.same1 hs9 hP⟩
                 · rw [wr_nek _ (by decide)]; exact hI2.2.1
                 · rw [wr_nek _ (by decide)]; exact hI2.2.2.1)
  · have hcl : clsR (fun j : Nat => σ.1 2 j) L d i = if d.1 0 < 8 then endR (fun j : Nat => σ.1 2 j) L (poleR (fun j : Nat => σ.1 2 j) L d (scan (isA (fun j : Nat => σ.1 2 j)) L (sk (fun j : Nat => σ.1 2 j) L i))) else .inl (3, (sk (fun j : Nat => σ.1 2 j) L i)) := by
      unfold clsR
      rw [if_pos (b2_ne h_10)]
    refine ev_aload_n dX3_readClause_13 rfl ?_
    refine ev_aload_n dX3_readClause_14 rfl ?_
    refine ev_getI (kz := 0) dX3_readClause_15 fl_X3_59 (plO hP) rfl rfl ?_
    rw [hc0]
    refine ev_bipush dX3_readClause_18 (by decide) ?_
    refine ev_callVP dX3_readClause_20 kv_X3_62 (k_room2 τ_1 ((d.1 0 : Nat) : Int) 8 ⟨by omega, by omega⟩ (by decide)) rfl rfl (ci := 3) rfl rfl ⟨by decide, by decide⟩ (Nat.le_of_ble_eq_true rfl) ?_
    rintro v_20 τ_20 ⟨z_20, rfl, hz_20⟩
    refine ev_w (fun hR => ?_)
    refine ev_if_eq (tgt := 45) dX3_readClause_23 (by decide) hz_20.R (fun h_23 => ?_) (fun h_23 => ?_)
    · refine ev_iconst dX3_readClause_45 ?_
      refine ev_ireturn dX3_readClause_46 ?_
      first
        | (obtain ⟨hq, hτ⟩ := hz_20.bad h_23
           refine ⟨0, rfl, Or.inl ⟨rfl, 3, (sk (fun j : Nat => σ.1 2 j) L i), by rw [hcl, if_neg (by omega)], ?_⟩⟩
           rw [hτ, g5]
           exact hI1.bad (RdA.fail (τ := τ_1) ⟨Same.rf, g2, rfl, g4, g5⟩ 3 _))
        | (obtain ⟨f, w, hN, hF⟩ := hz_28.bad h_31
           refine ⟨0, rfl, Or.inl ⟨rfl, f, w, by rw [hcl2, hN]; rfl, ?_⟩⟩
           exact ⟨hI1.1.tr hF.1, hF.2.1, hF.2.2.1, hF.2.2.2⟩)
        | (obtain ⟨hq, hτ⟩ := hz_35.bad h_38
           refine ⟨0, rfl, Or.inl ⟨rfl, 1, _, by rw [hcl3, if_neg hq], ?_⟩⟩
           rw [hτ]
           refine ⟨(((hI2.1.wr (Or.inl rfl)).wr (Or.inl rfl)).wr (Or.inl rfl)), ?_, ?_, wr_eq _ _ _ _⟩
           · rw [wr_nek _ (by decide), wr_nek _ (by decide), wr_nek _ (by decide)]; exact hI2.2.1
           · rw [wr_nek _ (by decide), wr_eq])
        | (obtain ⟨hq, hτ⟩ := hz_35.ok h_38
           refine ⟨1, rfl, Or.inr ⟨rfl, d2, _, by rw [hcl3, if_pos hq], ?_⟩⟩
           rw [hτ]
           have hs9 : Same S1 τ_28 (wr τ_28 1 4 (sk (fun j : Nat => σ.1 2 j) L e2 + 1 : Nat)) := Same.wr (S := S1) Same.rf rfl
           refine ⟨hI2.1.wr (Or.inl rfl), ?_, ?_, wr_eq _ _ _ _, hB2.2.2.2.2.1.same1 hs9 hP, hB2.2.2.2.2.2.same1 hs9 hP⟩
           · rw [wr_nek _ (by decide)]; exact hI2.2.1
           · rw [wr_nek _ (by decide)]; exact hI2.2.2.1)
    · obtain ⟨hf, rfl⟩ := hz_20.ok h_23
      have hf2 : d.1 0 < 8 := by omega
      have hcl2 : clsR (fun j : Nat => σ.1 2 j) L d i = endR (fun j : Nat => σ.1 2 j) L (poleR (fun j : Nat => σ.1 2 j) L d (scan (isA (fun j : Nat => σ.1 2 j)) L (sk (fun j : Nat => σ.1 2 j) L i))) := by rw [hcl, if_pos hf2]
      refine ev_aload_n dX3_readClause_26 rfl ?_
      refine ev_aload_n dX3_readClause_27 rfl ?_
      refine ev_callVP dX3_readClause_28 kv_X3_66 (k_bPole hI1 hP hL5 (by omega) hD1 hA1 hK hf2) rfl rfl (ci := 3) rfl rfl ⟨by decide, by decide⟩ (Nat.le_of_ble_eq_true rfl) ?_
      rintro v_28 τ_28 ⟨z_28, rfl, hz_28⟩
      refine ev_w (fun hR => ?_)
      refine ev_if_eq (tgt := 45) dX3_readClause_31 (by decide) hz_28.R (fun h_31 => ?_) (fun h_31 => ?_)
      · refine ev_iconst dX3_readClause_45 ?_
        refine ev_ireturn dX3_readClause_46 ?_
        first
          | (obtain ⟨hq, hτ⟩ := hz_20.bad h_23
             refine ⟨0, rfl, Or.inl ⟨rfl, 3, (sk (fun j : Nat => σ.1 2 j) L i), by rw [hcl, if_neg (by omega)], ?_⟩⟩
             rw [hτ, g5]
             exact hI1.bad (RdA.fail (τ := τ_1) ⟨Same.rf, g2, rfl, g4, g5⟩ 3 _))
          | (obtain ⟨f, w, hN, hF⟩ := hz_28.bad h_31
             refine ⟨0, rfl, Or.inl ⟨rfl, f, w, by rw [hcl2, hN]; rfl, ?_⟩⟩
             exact ⟨hI1.1.tr hF.1, hF.2.1, hF.2.2.1, hF.2.2.2⟩)
          | (obtain ⟨hq, hτ⟩ := hz_35.bad h_38
             refine ⟨0, rfl, Or.inl ⟨rfl, 1, _, by rw [hcl3, if_neg hq], ?_⟩⟩
             rw [hτ]
             refine ⟨(((hI2.1.wr (Or.inl rfl)).wr (Or.inl rfl)).wr (Or.inl rfl)), ?_, ?_, wr_eq _ _ _ _⟩
             · rw [wr_nek _ (by decide), wr_nek _ (by decide), wr_nek _ (by decide)]; exact hI2.2.1
             · rw [wr_nek _ (by decide), wr_eq])
          | (obtain ⟨hq, hτ⟩ := hz_35.ok h_38
             refine ⟨1, rfl, Or.inr ⟨rfl, d2, _, by rw [hcl3, if_pos hq], ?_⟩⟩
             rw [hτ]
             have hs9 : Same S1 τ_28 (wr τ_28 1 4 (sk (fun j : Nat => σ.1 2 j) L e2 + 1 : Nat)) := Same.wr (S := S1) Same.rf rfl
             refine ⟨hI2.1.wr (Or.inl rfl), ?_, ?_, wr_eq _ _ _ _, hB2.2.2.2.2.1.same1 hs9 hP, hB2.2.2.2.2.2.same1 hs9 hP⟩
             · rw [wr_nek _ (by decide)]; exact hI2.2.1
             · rw [wr_nek _ (by decide)]; exact hI2.2.2.1)
      · obtain ⟨d2, e2, hR2, hB2⟩ := hz_28.ok h_31
        have hok := poleR_ok hK hf2 hR2 hs4
        have hI2 : RdI σ τ_28 P L e2 := ⟨hI1.1.tr hB2.1, hB2.2.1, hB2.2.2.1.trans hI1.2.2.1, hB2.2.2.2.1⟩
        have hcl3 : clsR (fun j : Nat => σ.1 2 j) L d i = if sk (fun j : Nat => σ.1 2 j) L e2 < L ∧ (fun j : Nat => σ.1 2 j) (sk (fun j : Nat => σ.1 2 j) L e2) = 59 then .inr (d2, sk (fun j : Nat => σ.1 2 j) L e2 + 1) else .inl (1, sk (fun j : Nat => σ.1 2 j) L e2) := by rw [hcl2, hR2]; rfl
        refine ev_aload_n dX3_readClause_34 rfl ?_
        refine ev_callVP dX3_readClause_35 kv_X3_69 (k_endI hI2 hP hL5 hok.2.2) rfl rfl (ci := 3) rfl rfl ⟨by decide, by decide⟩ (Nat.le_of_ble_eq_true rfl) ?_
        rintro v_35 τ_35 ⟨z_35, rfl, hz_35⟩
        refine ev_w (fun hR => ?_)
        refine ev_if_eq (tgt := 45) dX3_readClause_38 (by decide) hz_35.R (fun h_38 => ?_) (fun h_38 => ?_)
        · refine ev_iconst dX3_readClause_45 ?_
          refine ev_ireturn dX3_readClause_46 ?_
          first
            | (obtain ⟨hq, hτ⟩ := hz_20.bad h_23
               refine ⟨0, rfl, Or.inl ⟨rfl, 3, (sk (fun j : Nat => σ.1 2 j) L i), by rw [hcl, if_neg (by omega)], ?_⟩⟩
               rw [hτ, g5]
               exact hI1.bad (RdA.fail (τ := τ_1) ⟨Same.rf, g2, rfl, g4, g5⟩ 3 _))
            | (obtain ⟨f, w, hN, hF⟩ := hz_28.bad h_31
               refine ⟨0, rfl, Or.inl ⟨rfl, f, w, by rw [hcl2, hN]; rfl, ?_⟩⟩
               exact ⟨hI1.1.tr hF.1, hF.2.1, hF.2.2.1, hF.2.2.2⟩)
            | (obtain ⟨hq, hτ⟩ := hz_35.bad h_38
               refine ⟨0, rfl, Or.inl ⟨rfl, 1, _, by rw [hcl3, if_neg hq], ?_⟩⟩
               rw [hτ]
               refine ⟨(((hI2.1.wr (Or.inl rfl)).wr (Or.inl rfl)).wr (Or.inl rfl)), ?_, ?_, wr_eq _ _ _ _⟩
               · rw [wr_nek _ (by decide), wr_nek _ (by decide), wr_nek _ (by decide)]; exact hI2.2.1
               · rw [wr_nek _ (by decide), wr_eq])
            | (obtain ⟨hq, hτ⟩ := hz_35.ok h_38
               refine ⟨1, rfl, Or.inr ⟨rfl, d2, _, by rw [hcl3, if_pos hq], ?_⟩⟩
               rw [hτ]
               have hs9 : Same S1 τ_28 (wr τ_28 1 4 (sk (fun j : Nat => σ.1 2 j) L e2 + 1 : Nat)) := Same.wr (S := S1) Same.rf rfl
               refine ⟨hI2.1.wr (Or.inl rfl), ?_, ?_, wr_eq _ _ _ _, hB2.2.2.2.2.1.same1 hs9 hP, hB2.2.2.2.2.2.same1 hs9 hP⟩
               · rw [wr_nek _ (by decide)]; exact hI2.2.1
               · rw [wr_nek _ (by decide)]; exact hI2.2.2.1)
        · refine ev_iconst dX3_readClause_41 ?_
          refine ev_goto (tgt := 46) dX3_readClause_42 (by decide) ?_
          refine ev_ireturn dX3_readClause_46 ?_
          first
            | (obtain ⟨hq, hτ⟩ := hz_20.bad h_23
               refine ⟨0, rfl, Or.inl ⟨rfl, 3, (sk (fun j : Nat => σ.1 2 j) L i), by rw [hcl, if_neg (by omega)], ?_⟩⟩
               rw [hτ, g5]
               exact hI1.bad (RdA.fail (τ := τ_1) ⟨Same.rf, g2, rfl, g4, g5⟩ 3 _))
            | (obtain ⟨f, w, hN, hF⟩ := hz_28.bad h_31
               refine ⟨0, rfl, Or.inl ⟨rfl, f, w, by rw [hcl2, hN]; rfl, ?_⟩⟩
               exact ⟨hI1.1.tr hF.1, hF.2.1, hF.2.2.1, hF.2.2.2⟩)
            | (obtain ⟨hq, hτ⟩ := hz_35.bad h_38
               refine ⟨0, rfl, Or.inl ⟨rfl, 1, _, by rw [hcl3, if_neg hq], ?_⟩⟩
               rw [hτ]
               refine ⟨(((hI2.1.wr (Or.inl rfl)).wr (Or.inl rfl)).wr (Or.inl rfl)), ?_, ?_, wr_eq _ _ _ _⟩
               · rw [wr_nek _ (by decide), wr_nek _ (by decide), wr_nek _ (by decide)]; exact hI2.2.1
               · rw [wr_nek _ (by decide), wr_eq])
            | (obtain ⟨hq, hτ⟩ := hz_35.ok h_38
               refine ⟨1, rfl, Or.inr ⟨rfl, d2, _, by rw [hcl3, if_pos hq], ?_⟩⟩
               rw [hτ]
               have hs9 : Same S1 τ_28 (wr τ_28 1 4 (sk (fun j : Nat => σ.1 2 j) L e2 + 1 : Nat)) := Same.wr (S := S1) Same.rf rfl
               refine ⟨hI2.1.wr (Or.inl rfl), ?_, ?_, wr_eq _ _ _ _, hB2.2.2.2.2.1.same1 hs9 hP, hB2.2.2.2.2.2.same1 hs9 hP⟩
               · rw [wr_nek _ (by decide)]; exact hI2.2.1
               · rw [wr_nek _ (by decide)]; exact hI2.2.2.1)
