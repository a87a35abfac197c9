/-! ===== cells alike, whatever the rest of the map is ===== -/
theorem dx_cong {G : Nat → Prop} (hG : mx_cl1 G) {g g' : mx_G} {σ σ' : mx_S} {k o : Nat} (hk : k < mx_kM o) (ho : G o) (h1 : ∀ k o, o < 55 → G o → g.1 k o = g'.1 k o) (h2 : g.2.2.1 = g'.2.2.1) (h3 : σ k o = σ' k o) : mx_cell g σ k o = mx_cell g' σ' k o := by
  have h55 := mx_kM_lt hk
  unfold mx_cell
  cases hc : mx_cO o with
  | zero =>
    show Sum.inl _ = Sum.inl _
    rw [h2, h3]
    by_cases h : mx_aT o ≤ 3
    · rw [if_pos h, if_pos h]
    · rw [if_neg h, if_neg h]
      have lt : ∀ j, (mx_rA o j).2 < 55 := fun j => by
        unfold mx_rA
        split
        · show 32 < 55; omega
        · show 0 < 55; omega
      have e : (fun j => some (g.1 (mx_rA o j).1 (mx_rA o j).2)) = (fun j => some (g'.1 (mx_rA o j).1 (mx_rA o j).2)) := by
        funext j
        rw [h1 _ _ (lt j) (hG.2 o h55 ho j (by omega) (lt j))]
      rw [e]
  | succ n =>
    show Sum.inr _ = Sum.inr _
    have e : (List.range (mx_nf o)).map (mx_fv g σ k o) = (List.range (mx_nf o)).map (mx_fv g' σ' k o) := by
      refine List.map_congr_left (fun j hj => ?_)
      have hj := List.mem_range.mp hj
      have lt : mx_fk o j = 2 ∨ mx_fk o j = 3 → (mx_pt k o j).2 < 55 := fun q => mx_kM_lt (mx_pt_ok hk hj q)
      unfold mx_fv
      rw [h3]
      split
      · rename_i q
        rw [h1 _ _ (lt (Or.inl q)) (hG.1 o h55 ho k j (Or.inl q) (lt (Or.inl q)))]
      · rename_i q
        rw [h1 _ _ (lt (Or.inr q)) (hG.1 o h55 ho k j (Or.inr q) (lt (Or.inr q)))]
      · rfl
    rw [e]
theorem dx_csX_ok : ∀ q ∈ dx_csX, q.1 < mx_kM q.2 ∧ q.2 < 39 := by decide +kernel
theorem dx_csM_ok : ∀ q ∈ dx_csM, q.1 < mx_kM q.2 ∧ 39 ≤ q.2 := by decide +kernel
theorem dx_cs_in : ∀ q ∈ mx_cs, q ∈ dx_csX ++ dx_csM := by decide +kernel
theorem dx_s0_X {L : Nat} {xs : Nat → Int32} {k o : Nat} (h : o < 55) : dx_s0 L xs k o = dx_s0 0 (fun _ => 0) k o := by
  have e : ∀ (L : Nat) (xs : Nat → Int32), dx_s0 L xs k o = if o = 32 then (fun j => if j = 1 then 1 else 0) else if o = 39 then (fun j => if j = 21 then -1 else if j = 22 then -1 else if j = 23 then -1 else 0) else if o = 40 then dx_s0 0 (fun _ => 0) k 40 else (fun _ => 0) := by
    intro L xs
    unfold dx_s0
    by_cases h1 : o = 32
    · rw [if_pos h1, if_pos h1]
    · rw [if_neg h1, if_neg h1]
      by_cases h2 : o = 39
      · rw [if_pos h2, if_pos h2]
      · rw [if_neg h2, if_neg h2]
        by_cases h3 : o = 40
        · rw [if_pos h3, if_pos h3]; rfl
        · rw [if_neg h3, if_neg h3, if_neg (by omega)]
  rw [e L xs, e 0 (fun _ => 0)]
/-- the world behind both constructors is the machine's -/
theorem dx_world {D : va_G} {d : Nat → ClassId} {uX uM : Nat → Nat → Nat} {g : mx_G} {L : Nat} {xs : Nat → Int32} (h1 : g.2.1 = D) (h2 : g.2.2.1 = d) (hX : ∀ k o, o < 39 → g.1 k o = uX k o) (hM : ∀ k o, 39 ≤ o → o < 55 → g.1 k o = uM k o) : dx_wX D d uX ++ dx_wM D d uM = (dx_csX ++ dx_csM).map (fun q => (g.1 q.1 q.2, mx_cell g (dx_s0 L xs) q.1 q.2)) := by
  rw [List.map_append]
  unfold dx_wX dx_wM
  congr 1
  · refine List.map_congr_left (fun q hq => ?_)
    obtain ⟨a1, a2⟩ := dx_csX_ok q hq
    rw [hX _ _ a2, dx_cong (G := mx_GX) mx_GX_cl (g := (uX, D, d, .null)) (g' := g) (σ' := dx_s0 L xs) a1 a2 (fun k o _ ho => (hX k o ho).symm) h2.symm (dx_s0_X (by omega)).symm]
  · refine List.map_congr_left (fun q hq => ?_)
    obtain ⟨a1, a2⟩ := dx_csM_ok q hq
    have a3 := mx_kM_lt a1
    rw [hM _ _ a2 a3, dx_cong (G := mx_GM) mx_GM_cl (g := (uM, D, d, .null)) (g' := g) (σ' := dx_s0 L xs) a1 ⟨a2, a3⟩ (fun k o _ ho => (hM k o ho.1 ho.2).symm) h2.symm (dx_s0_X a3).symm]
theorem dx_at {g : mx_G} {σ : mx_S} {k o : Nat} (hk : k < mx_kM o) : ∃ i : Nat, (dx_csX ++ dx_csM)[i]? = some (k, o) ∧ ((dx_csX ++ dx_csM).map (fun q => (g.1 q.1 q.2, mx_cell g σ q.1 q.2)))[i]? = some (g.1 k o, mx_cell g σ k o) := by
  obtain ⟨i, hi⟩ := List.getElem?_of_mem (dx_cs_in _ (mx_cs_mem hk))
  exact ⟨i, hi, by rw [List.getElem?_map, hi]; rfl⟩
theorem dx_toP {g : mx_G} {σ : mx_S} {H : Heap} (hP : va_P g.2.1 vwCl ((dx_csX ++ dx_csM).map (fun q => (g.1 q.1 q.2, mx_cell g σ q.1 q.2))) H) : va_P g.2.1 vwCl (mx_ws g σ) H := by
  intro n r hr
  rw [mx_ws, List.getElem?_map] at hr
  cases hq : mx_cs[n]? with
  | none => rw [hq] at hr; cases hr
  | some q =>
    rw [hq] at hr
    cases hr
    obtain ⟨i, -, hi⟩ := dx_at (g := g) (σ := σ) (mx_cs_of (List.mem_of_getElem? hq))
    exact hP i _ hi
theorem dx_toInj {A : Nat → Prop} {g : mx_G} {σ : mx_S} (hD : va_D A ((dx_csX ++ dx_csM).map (fun q => (g.1 q.1 q.2, mx_cell g σ q.1 q.2)))) : mx_inj g := by
  intro k o k' o' hk hk' he
  obtain ⟨i, hi, hi2⟩ := dx_at (g := g) (σ := σ) hk
  obtain ⟨j, hj, hj2⟩ := dx_at (g := g) (σ := σ) hk'
  have e := hD.1 i j _ _ hi2 hj2 he
  subst e
  exact Option.some.inj (hi.symm.trans hj)
theorem dx_toA {A : Nat → Prop} {g : mx_G} {σ : mx_S} (hD : va_D A ((dx_csX ++ dx_csM).map (fun q => (g.1 q.1 q.2, mx_cell g σ q.1 q.2)))) : ∀ a, mx_A g a → A a := by
  rintro a ⟨k, o, hk, rfl⟩
  obtain ⟨i, -, hi2⟩ := dx_at (g := g) (σ := σ) hk
  exact hD.2 i _ hi2
/-! ===== nothing yet: the class and the reference stand alike ===== -/
theorem dx_INV (L : Nat) (xs : Nat → Int32) : INV (dx_s0 L xs) (dx_s0 L xs) := by
  have hb : HB (fun _ => 0) := ⟨by decide, by decide, by decide, by decide, by decide, by decide, by decide, fun i hi => absurd hi (Nat.not_lt_zero _), fun i hi => absurd hi (Nat.not_lt_zero _), fun i hi => absurd hi (Nat.not_lt_zero _), fun i hi => absurd hi (Nat.not_lt_zero _), rfl⟩
  have no : ∀ {P : Nat → Prop} (i : Nat), i < (fun _ : Nat => 0) 2 → P i := fun i hi => absurd hi (Nat.not_lt_zero _)
  refine ⟨fun r hr => ⟨⟨0, by decide, rfl, rfl⟩, fun i _ => rfl, Or.inl ⟨rfl, ?_⟩⟩, rfl, ⟨0, by decide, rfl, rfl, fun j hj => absurd hj (Nat.not_lt_zero _)⟩, rfl, ⟨0, by decide, rfl, rfl, fun j hj => absurd hj (Nat.not_lt_zero _)⟩, ⟨rfl, rfl, rfl⟩, ?_, Or.inl ⟨rfl, rfl⟩, Or.inl ⟨rfl, rfl⟩⟩
  · rcases (show r = 0 ∨ r = 1 ∨ r = 2 ∨ r = 3 ∨ r = 4 ∨ r = 5 ∨ r = 6 ∨ r = 7 by omega) with rfl | rfl | rfl | rfl | rfl | rfl | rfl | rfl <;> rfl
  · refine ⟨fun _ => 0, fun _ _ => 0, fun _ => 0, ⟨hb, fun a b ha _ => absurd ha (Nat.not_lt_zero _), ⟨fun v hv => absurd hv (Nat.not_lt_zero _), fun v hv => absurd hv (Nat.not_lt_zero _)⟩, fun v hv _ => absurd hv (Nat.not_lt_zero _), Or.inl ⟨rfl, rfl⟩⟩, ⟨⟨rfl, rfl, rfl, rfl, rfl, rfl, rfl, fun i hi => absurd hi (Nat.not_lt_zero _), fun i hi => absurd hi (Nat.not_lt_zero _), fun i hi => absurd hi (Nat.not_lt_zero _), fun i hi => absurd hi (Nat.not_lt_zero _)⟩, ⟨fun a b ha _ => absurd ha (Nat.not_lt_zero _), fun a b ha _ => absurd ha (Nat.not_lt_zero _)⟩, ⟨rfl, rfl, fun v hv => absurd hv (Nat.not_lt_zero _), fun v hv => absurd hv (Nat.not_lt_zero _), fun v hv => absurd hv (Nat.not_lt_zero _), fun v hv => absurd hv (Nat.not_lt_zero _), fun v hv => absurd hv (Nat.not_lt_zero _), fun v hv => absurd hv (Nat.not_lt_zero _), fun v hv => absurd hv (Nat.not_lt_zero _), fun v p hv _ => absurd hv (Nat.not_lt_zero _), fun v hv => absurd hv (Nat.not_lt_zero _)⟩, fun v hv => absurd hv (Nat.not_lt_zero _)⟩, ⟨fun i _ => rfl, fun x y _ _ => rfl, fun i _ => rfl, rfl⟩⟩
