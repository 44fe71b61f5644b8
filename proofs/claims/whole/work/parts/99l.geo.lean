/-! the same cells, told by another geometry -/
/-- where the references of cell c lead: into S -/
def refsIn (S : Nat → Prop) (σ : Mem) (c : Nat) : Prop := match shapes[c]? with
  | some (.inl ci) => ∀ k, k < nfld ci → ((fkd ci k).1 = 2 → S (c + (fkd ci k).2)) ∧ ((fkd ci k).1 = 3 → S (σ.1 c k).toNat)
  | some (.inr (t, n)) => t = 3 → ∀ j, j < n → S (imgId j)
  | none => True
theorem arrV_congr {cI : ClassId} {N : Nat} {f f2 : Nat → Value} (h : ∀ j, j < N → f j = f2 j) : arrV cI N f = arrV cI N f2 := by
  unfold arrV
  congr 2
  funext j
  exact h j.1 j.2
theorem fk3 (ci k : Nat) : (fkd ci k).1 ≤ 3 := by
  by_cases h : ci < 9
  · by_cases h2 : k < 74
    · have : ∀ ci, ci < 9 → ∀ k, k < 74 → (fkd ci k).1 ≤ 3 := by decide +kernel
      exact this ci h k h2
    · have e : (ftab.getD ci []).length ≤ 74 := by
        have : ∀ ci, ci < 9 → (ftab.getD ci []).length ≤ 74 := by decide +kernel
        exact this ci h
      unfold fkd
      rw [List.getD_eq_getElem?_getD (l := ftab.getD ci []), List.getElem?_eq_none (by omega)]
      decide
  · have e : ftab.getD ci [] = [] := by
      rw [List.getD_eq_getElem?_getD, List.getElem?_eq_none (by show 9 ≤ ci; omega)]
      rfl
    unfold fkd
    rw [e]
    simp
theorem at_geo {D : va_G} {cl : List vw_C} {g h : Geo} {σ : Mem} {q c : Nat} {H : Heap} (S : Nat → Prop) (h2 : g.2 = h.2) (hS : ∀ k, S k → g.1 k = h.1 k) (hr : refsIn S σ c) (ha : va_at D cl (q, ent g σ c) H) : va_at D cl (q, ent h σ c) H := by
  obtain ⟨g1, g2⟩ := g
  obtain ⟨h1, h2'⟩ := h
  cases h2
  unfold refsIn at hr
  unfold ent at ha ⊢
  split at ha
  next ci hs =>
    rw [hs] at hr
    have e : flds (g1, g2) σ c ci = flds (h1, g2) σ c ci := by
      unfold flds
      refine List.map_congr_left (fun k hk => ?_)
      obtain ⟨r1, r2⟩ := hr k (List.mem_range.mp hk)
      unfold fval
      split
      · rfl
      · split
        · rfl
        · split
          · next q2 => exact congrArg Value.ref (hS _ (r1 q2))
          · next q1 q2 q3 =>
            by_cases h3 : (fkd ci k).1 = 3
            · exact congrArg Value.ref (hS _ (r2 h3))
            · exact absurd (fk3 ci k) (by omega)
    rw [e] at ha
    exact ha
  next t n hs =>
    rw [hs] at hr
    by_cases h3 : t = 3
    · subst h3
      have e : vp_cell (acls (g1, g2) 3) (n, acon (g1, g2) σ c 3) = vp_cell (acls (h1, g2) 3) (n, acon (h1, g2) σ c 3) := by
        unfold acon
        rw [if_pos rfl, if_pos rfl]
        rw [vp_cell_q, vp_cell_q, show acls (h1, g2) 3 = acls (g1, g2) 3 from rfl]
        refine arrV_congr (fun j hj => ?_)
        show va_rf (some (g1 (imgId j))) = va_rf (some (h1 (imgId j)))
        rw [show g1 (imgId j) = h1 (imgId j) from hS _ (hr rfl j hj)]
      have ha : H[q]? = some (vp_cell (acls (g1, g2) 3) (n, acon (g1, g2) σ c 3)) := ha
      rw [e] at ha
      exact ha
    · have e : acon (g1, g2) σ c t = acon (h1, g2) σ c t := by unfold acon; rw [if_neg h3, if_neg h3]
      rw [e] at ha
      exact ha
  next hs => exact ha
theorem perm_world {A : Nat → Prop} {D : va_G} {cl : List vw_C} {H : Heap} {U : Nat → Nat} {F F2 : Nat → va_E} {L : List Nat} {n : Nat} (π : Nat → Nat) (hπ : ∀ i, i < n → L[π i]? = some i) (hF : ∀ i, i < n → va_at D cl (U i, F i) H → va_at D cl (U i, F2 i) H) (hP : va_P D cl (L.map fun k => (U k, F k)) H) (hD : va_D A (L.map fun k => (U k, F k))) : va_P D cl ((List.range n).map fun k => (U k, F2 k)) H ∧ va_D A ((List.range n).map fun k => (U k, F2 k)) := by
  have up : ∀ i, i < n → (L.map fun k => (U k, F k))[π i]? = some (U i, F i) := fun i hi => by rw [List.getElem?_map, hπ i hi]; rfl
  have dn : ∀ (i : Nat) (q : Nat × va_E), ((List.range n).map fun k => (U k, F2 k))[i]? = some q → i < n ∧ q = (U i, F2 i) := by
    intro i q h
    have hl : i < n := by simpa using (List.getElem?_eq_some_iff.mp h).1
    rw [List.getElem?_map, List.getElem?_range hl] at h
    exact ⟨hl, (Option.some.inj h).symm⟩
  refine ⟨fun i q h => ?_, fun i j a b ha hb e => ?_, fun i q h => ?_⟩
  · obtain ⟨h1, rfl⟩ := dn i q h
    exact hF i h1 (hP (π i) _ (up i h1))
  · obtain ⟨h1, rfl⟩ := dn i a ha
    obtain ⟨h2, rfl⟩ := dn j b hb
    have h3 := hD.1 (π i) (π j) _ _ (up i h1) (up j h2) e
    have h4 := hπ i h1
    rw [h3, hπ j h2] at h4
    exact (Option.some.inj h4).symm
  · obtain ⟨h1, rfl⟩ := dn i q h
    exact hD.2 (π i) (U i, F i) (up i h1)
theorem zent_sh {g : Geo} {σ : Mem} {c : Nat} (h : c < 79) : zent g σ c = ent g σ c := by
  unfold zent ent zshapes
  rw [List.getElem?_take_of_lt h]
  rfl
theorem blk_z (g : Geo) (σ : Mem) : blk g σ 0 79 = zcellsG g σ := by
  unfold blk zcellsG
  rw [← List.range_eq_range']
  exact List.map_congr_left (fun k hk => by rw [zent_sh (List.mem_range.mp hk)])
