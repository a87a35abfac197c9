/-! ===== the world of the machine, in the kit's words ===== -/
def lw_gd : List Cond := lw_tbl.filter goodWord
theorem lw_gd_of {w : Cond} {k : Nat} (h : (decide (lw_tbl[k]? = some w) && goodWord w) = true) : w ∈ lw_gd := by
  simp only [Bool.and_eq_true, decide_eq_true_eq] at h
  exact List.mem_filter.mpr ⟨List.mem_of_getElem? h.1, h.2⟩
abbrev mx_G : Type := (Nat → Nat → Nat) × va_G × (Nat → ClassId) × Value
def mx_rv (g : mx_G) : mx_V → Value
  | Sum.inl x => .int x
  | Sum.inr (Sum.inl x) => .long x
  | Sum.inr (Sum.inr q) => if q.2 = mx_oQ then g.2.2.2 else .ref (g.1 q.1 q.2)
def mx_fv (g : mx_G) (σ : mx_S) (k o j : Nat) : Value := match mx_fk o j with
  | 2 => .ref (g.1 (mx_pt k o j).1 (mx_pt k o j).2)
  | 3 => if σ k o j = 0 then .null else .ref (g.1 (mx_pt k o j).1 (mx_pt k o j).2)
  | _ => .int (σ k o j)
def mx_nf (o : Nat) : Nat := (mx_nthL mx_fkT o).length
def mx_cell (g : mx_G) (σ : mx_S) (k o : Nat) : va_E := match mx_cO o with
  | 0 => .inl (g.2.2.1 (mx_aT o), mx_aN o, if mx_aT o ≤ 3 then .inl (σ k o) else .inr (.inr (.inr (.inr (fun j => some (g.1 (mx_rA o j).1 (mx_rA o j).2))))))
  | c + 1 => .inr (c, (List.range (mx_nf o)).map (mx_fv g σ k o))
def mx_cs : List (Nat × Nat) := (List.range 55).flatMap (fun o => (List.range (mx_kM o)).map (fun k => (k, o)))
def mx_ws (g : mx_G) (σ : mx_S) : va_W := mx_cs.map (fun q => (g.1 q.1 q.2, mx_cell g σ q.1 q.2))
theorem mx_nth_ge : ∀ (l : List Nat) (n : Nat), l.length ≤ n → mx_nth l n = 0
  | [], _, _ => rfl
  | _ :: _, 0, h => absurd h (by simp)
  | _ :: l, n + 1, h => mx_nth_ge l n (by simpa using h)
theorem mx_kM_lt {k o : Nat} (h : k < mx_kM o) : o < 55 := by
  rcases Nat.lt_or_ge o 55 with q | q
  · exact q
  · rw [mx_kM, mx_nth_ge _ _ (show mx_kMT.length ≤ o from q)] at h
    exact absurd h (Nat.not_lt_zero _)
theorem mx_cs_mem {k o : Nat} (h : k < mx_kM o) : (k, o) ∈ mx_cs := List.mem_flatMap.mpr ⟨o, List.mem_range.mpr (mx_kM_lt h), List.mem_map.mpr ⟨k, List.mem_range.mpr h, rfl⟩⟩
theorem mx_cs_of {q : Nat × Nat} (h : q ∈ mx_cs) : q.1 < mx_kM q.2 := by
  obtain ⟨o, -, h⟩ := List.mem_flatMap.mp h
  obtain ⟨k, hk, rfl⟩ := List.mem_map.mp h
  exact List.mem_range.mp hk
theorem mx_cs_nd : mx_cs.Nodup := by decide +kernel
theorem mx_cs_inj {i j : Nat} {q : Nat × Nat} (h1 : mx_cs[i]? = some q) (h2 : mx_cs[j]? = some q) : i = j := (List.getElem?_inj (List.getElem?_eq_some_iff.mp h1).1 mx_cs_nd).mp (h1.trans h2.symm)
theorem mx_at {k o : Nat} (h : k < mx_kM o) : ∃ i : Nat, mx_cs[i]? = some (k, o) := List.getElem?_of_mem (mx_cs_mem h)
theorem mx_ws_at {g : mx_G} {σ : mx_S} {i k o : Nat} (h : mx_cs[i]? = some (k, o)) : (mx_ws g σ)[i]? = some (g.1 k o, mx_cell g σ k o) := by
  rw [mx_ws, List.getElem?_map, h]
  rfl
theorem mx_ws_set {g : mx_G} {σ τ : mx_S} {i k o : Nat} {e : va_E} (h : mx_cs[i]? = some (k, o)) (he : mx_cell g τ k o = e) (ho : ∀ k' o', (k', o') ≠ (k, o) → mx_cell g τ k' o' = mx_cell g σ k' o') : (mx_ws g σ).set i (g.1 k o, e) = mx_ws g τ := by
  apply List.ext_getElem?
  intro n
  by_cases hn : n = i
  · subst hn
    rw [List.getElem?_set_self (by rw [mx_ws, List.length_map]; exact (List.getElem?_eq_some_iff.mp h).1), mx_ws_at h, he]
  · rw [List.getElem?_set_ne (Ne.symm hn), mx_ws, mx_ws, List.getElem?_map, List.getElem?_map]
    cases hq : mx_cs[n]? with
    | none => rfl
    | some q =>
      obtain ⟨k', o'⟩ := q
      have : (k', o') ≠ (k, o) := fun z => hn (mx_cs_inj (z ▸ hq) h)
      simp only [Option.map_some, ho k' o' this]
def mx_A (g : mx_G) : Nat → Prop := fun a => ∃ k o, k < mx_kM o ∧ a = g.1 k o
def mx_inj (g : mx_G) : Prop := ∀ k o k' o', k < mx_kM o → k' < mx_kM o' → g.1 k o = g.1 k' o' → (k, o) = (k', o')
theorem mx_Dof {g : mx_G} (h : mx_inj g) (σ : mx_S) : va_D (mx_A g) (mx_ws g σ) := by
  have key : ∀ (i : Nat) (p : Nat × va_E), (mx_ws g σ)[i]? = some p → ∃ k o, mx_cs[i]? = some (k, o) ∧ k < mx_kM o ∧ p.1 = g.1 k o := by
    intro i p hp
    rw [mx_ws, List.getElem?_map] at hp
    cases hq : mx_cs[i]? with
    | none => rw [hq] at hp; cases hp
    | some q =>
      rw [hq] at hp
      cases hp
      exact ⟨q.1, q.2, rfl, mx_cs_of (List.mem_of_getElem? hq), rfl⟩
  refine ⟨fun i j p q hi hj hpq => ?_, fun i p hp => ?_⟩
  · obtain ⟨k, o, h1, h2, h3⟩ := key i p hi
    obtain ⟨k', o', h4, h5, h6⟩ := key j q hj
    have := h k o k' o' h2 h5 (by rw [← h3, ← h6]; exact hpq)
    rw [this] at h1
    exact mx_cs_inj h1 h4
  · obtain ⟨k, o, h1, h2, h3⟩ := key i p hp
    exact ⟨k, o, h2, h3⟩
def mx_okV : mx_V → Prop
  | Sum.inr (Sum.inr (k, o)) => k < mx_kM o ∨ ((o = mx_oS ∨ o = mx_oB) ∧ k < 9) ∨ o = mx_oQ ∨ (k = 0 ∧ o = mx_oX)
  | _ => True
theorem mx_rv_ref {g : mx_G} {k o : Nat} (h : k < mx_kM o) : mx_rv g (Sum.inr (Sum.inr (k, o))) = .ref (g.1 k o) := by
  have := mx_kM_lt h
  show (if o = mx_oQ then _ else _) = _
  rw [if_neg (by show ¬ o = 57; omega)]
theorem mx_okV_cell {k o : Nat} (h : mx_okV (Sum.inr (Sum.inr (k, o)))) (ho : o < 55) : k < mx_kM o := by
  rcases h with h | ⟨h | h, -⟩ | h | h
  · exact h
  · exact absurd h (by show ¬ o = 55; omega)
  · exact absurd h (by show ¬ o = 56; omega)
  · exact absurd h (by show ¬ o = 57; omega)
  · exact absurd h.2 (by show ¬ o = 58; omega)
theorem mx_cO_lt {o c : Nat} (h : mx_cO o = c + 1) : o < 55 := by
  rcases Nat.lt_or_ge o 55 with q | q
  · exact q
  · rw [mx_cO, mx_nth_ge _ _ (show mx_cOT.length ≤ o from q)] at h
    cases h
theorem mx_aT_lt {o c : Nat} (h : mx_aT o = c + 1) : o < 55 := by
  rcases Nat.lt_or_ge o 55 with q | q
  · exact q
  · rw [mx_aT, mx_nth_ge _ _ (show mx_aTT.length ≤ o from q)] at h
    cases h
theorem mx_aT_c : ∀ o, o < 55 → (mx_aT o ≠ 0 → mx_cO o = 0) ∧ (mx_cO o ≠ 0 → (mx_cO o - 1 < 9 ∧ mx_nf o = (vwCl.getD (mx_cO o - 1) (RX0, TX0, 0)).2.2)) := by decide +kernel
theorem mx_pt_if (k o j : Nat) : mx_pt k o j = if (mx_nthP (mx_nthL mx_ptT o) j).1 = 1 then (k, (mx_nthP (mx_nthL mx_ptT o) j).2.2) else ((mx_nthP (mx_nthL mx_ptT o) j).2.1, (mx_nthP (mx_nthL mx_ptT o) j).2.2) := by
  unfold mx_pt
  generalize mx_nthP (mx_nthL mx_ptT o) j = e
  obtain ⟨a, b, c⟩ := e
  by_cases h : a = 1
  · subst h; rfl
  · rw [if_neg h]
    split
    · rename_i e2; cases e2; exact absurd rfl h
    · rename_i e2; cases e2; rfl
theorem mx_pt_tab : ∀ o, o < 55 → ∀ j, j < mx_nf o → mx_fk o j = 2 ∨ mx_fk o j = 3 → (if (mx_nthP (mx_nthL mx_ptT o) j).1 = 1 then mx_kM o = mx_kM (mx_nthP (mx_nthL mx_ptT o) j).2.2 else (mx_nthP (mx_nthL mx_ptT o) j).2.1 < mx_kM (mx_nthP (mx_nthL mx_ptT o) j).2.2) := by decide +kernel
theorem mx_pt_ok {k o j : Nat} (hk : k < mx_kM o) (hj : j < mx_nf o) (hf : mx_fk o j = 2 ∨ mx_fk o j = 3) : (mx_pt k o j).1 < mx_kM (mx_pt k o j).2 := by
  have h := mx_pt_tab o (mx_kM_lt hk) j hj hf
  rw [mx_pt_if]
  split at h
  · rename_i e
    rw [if_pos e, ← h]
    exact hk
  · rename_i e
    rw [if_neg e]
    exact h
/-! the locals -/
theorem mx_lo_lt : ∀ {l : mx_Loc} {j : Nat} {w : mx_V}, mx_lo l j = some w → j < l.length
  | [], _, _, h => by cases h
  | _ :: _, 0, _, _ => by simp
  | _ :: l, n + 1, _, h => by
    have := mx_lo_lt (l := l) h
    simp; omega
theorem mx_lo_set : ∀ (l : mx_Loc) (i j : Nat) (v : Option mx_V) (w : mx_V), mx_lo (l.set i v) j = some w → (j = i ∧ v = some w) ∨ (j ≠ i ∧ mx_lo l j = some w)
  | [], _, _, _, _, h => by cases h
  | _ :: _, 0, 0, _, _, h => Or.inl ⟨rfl, h⟩
  | _ :: _, 0, n + 1, _, _, h => Or.inr ⟨by omega, h⟩
  | _ :: _, i + 1, 0, _, _, h => Or.inr ⟨by omega, h⟩
  | _ :: l, i + 1, n + 1, v, w, h => by
    rcases mx_lo_set l i n v w h with ⟨h1, h2⟩ | ⟨h1, h2⟩
    · exact Or.inl ⟨by omega, h2⟩
    · exact Or.inr ⟨by omega, h2⟩
def mx_lg : mx_V → Prop
  | Sum.inr (Sum.inl _) => True
  | _ => False
theorem mx_lo_st1 {l : mx_Loc} {i j : Nat} {v w : mx_V} (h : mx_lo (mx_st1 l i v) j = some w) : (j = i ∧ w = v) ∨ (j ≠ i ∧ mx_lo l j = some w ∧ ¬ (j + 1 = i ∧ mx_lg w)) := by
  cases i with
  | zero =>
    rcases mx_lo_set _ _ _ _ _ h with ⟨h1, h2⟩ | ⟨h1, h2⟩
    · exact Or.inl ⟨h1, (Option.some.inj h2).symm⟩
    · exact Or.inr ⟨h1, h2, fun q => by omega⟩
  | succ i =>
    unfold mx_st1 at h
    dsimp only at h
    split at h
    · rcases mx_lo_set _ _ _ _ _ h with ⟨h1, h2⟩ | ⟨h1, h2⟩
      · exact Or.inl ⟨h1, (Option.some.inj h2).symm⟩
      · rcases mx_lo_set _ _ _ _ _ h2 with ⟨h3, h4⟩ | ⟨h3, h4⟩
        · cases h4
        · exact Or.inr ⟨h1, h4, fun q => by omega⟩
    · rename_i hn
      rcases mx_lo_set _ _ _ _ _ h with ⟨h1, h2⟩ | ⟨h1, h2⟩
      · exact Or.inl ⟨h1, (Option.some.inj h2).symm⟩
      · refine Or.inr ⟨h1, h2, fun q => ?_⟩
        obtain ⟨q1, q2⟩ := q
        have : j = i := by omega
        subst this
        rcases w with x | x | x
        · exact q2
        · exact hn x h2
        · exact q2
theorem mx_lo_kp : ∀ {ts : List Nat} {l : mx_Loc} {j : Nat} {w : mx_V}, mx_lo (mx_kp ts l) j = some w → mx_lo l j = some w
  | [], [], _, _, h => by cases h
  | [], _ :: _, _, _, h => by cases h
  | 0 :: _, [], _, _, h => by cases h
  | 1 :: _, [], _, _, h => by cases h
  | (_ + 2) :: _, [], _, _, h => by cases h
  | 1 :: ts, v :: l, 0, w, h => h
  | 1 :: ts, v :: l, n + 1, w, h => mx_lo_kp (ts := ts) (l := l) h
  | 0 :: ts, v :: l, 0, w, h => by cases h
  | 0 :: ts, v :: l, n + 1, w, h => mx_lo_kp (ts := ts) (l := l) h
  | (_ + 2) :: ts, v :: l, 0, w, h => by cases h
  | (_ + 2) :: ts, v :: l, n + 1, w, h => mx_lo_kp (ts := ts) (l := l) h
def mx_lv (g : mx_G) (ls : Array Slot) (nL : Nat) (loc : mx_Loc) : Prop := ls.size = nL ∧ lv_wf ls ∧ ∀ i v, mx_lo loc i = some v → ls[i]? = some (.val (mx_rv g v))
def mx_al (g : mx_G) (loc : mx_Loc) : List (Nat × Value) := (List.range loc.length).filterMap (fun i => (mx_lo loc i).map (fun v => (i, mx_rv g v)))
theorem mx_al_mem {g : mx_G} {loc : mx_Loc} {i : Nat} {v : mx_V} (h : mx_lo loc i = some v) : (i, mx_rv g v) ∈ mx_al g loc := List.mem_filterMap.mpr ⟨i, List.mem_range.mpr (mx_lo_lt h), by rw [h]; rfl⟩
theorem mx_lv.has {g : mx_G} {ls : Array Slot} {nL : Nat} {loc : mx_Loc} (h : mx_lv g ls nL loc) : lv_has ls nL (mx_al g loc) := by
  refine ⟨h.1, h.2.1, fun q hq => ?_⟩
  obtain ⟨i, -, hi⟩ := List.mem_filterMap.mp hq
  cases hl : mx_lo loc i with
  | none => rw [hl] at hi; cases hi
  | some v => rw [hl] at hi; cases hi; exact h.2.2 i v hl
theorem mx_lg_of {g : mx_G} (hq : g.2.2.2.category = 1) {w : mx_V} (h : (mx_rv g w).category = 2) : mx_lg w := by
  rcases w with x | x | x
  · cases h
  · trivial
  · have h' : (if x.2 = mx_oQ then g.2.2.2 else Value.ref (g.1 x.1 x.2)).category = 2 := h
    split at h'
    · omega
    · cases h'
theorem mx_lv.st1 {g : mx_G} (hq : g.2.2.2.category = 1) {ls : Array Slot} {nL i : Nat} {loc : mx_Loc} {v : mx_V} (h : lv_has ls nL ((i, mx_rv g v) :: (mx_al g loc).filter (fun q => !(q.1 == i) && !(q.1 + 1 == i && q.2.category == 2)))) : mx_lv g ls nL (mx_st1 loc i v) := by
  refine ⟨h.1, h.2.1, fun j w hj => ?_⟩
  rcases mx_lo_st1 hj with ⟨rfl, rfl⟩ | ⟨h1, h2, h3⟩
  · exact h.2.2 (j, mx_rv g w) List.mem_cons_self
  · refine h.2.2 (j, mx_rv g w) (List.mem_cons_of_mem _ (List.mem_filter.mpr ⟨mx_al_mem h2, ?_⟩))
    simp only [Bool.and_eq_true, Bool.not_eq_true', beq_eq_false_iff_ne, Bool.and_eq_false_iff]
    refine ⟨h1, ?_⟩
    by_cases q : j + 1 = i
    · exact Or.inr fun z => h3 ⟨q, mx_lg_of hq z⟩
    · exact Or.inl q
theorem mx_lv.st2 {g : mx_G} (hq : g.2.2.2.category = 1) {ls : Array Slot} {nL i : Nat} {loc : mx_Loc} {v : mx_V} (h : lv_has ls nL ((i, mx_rv g v) :: (mx_al g loc).filter (fun q => !(q.1 == i) && (!(q.1 == i + 1) && !(q.1 + 1 == i && q.2.category == 2))))) : mx_lv g ls nL ((mx_st1 loc i v).set (i + 1) none) := by
  refine ⟨h.1, h.2.1, fun j w hj => ?_⟩
  rcases mx_lo_set _ _ _ _ _ hj with ⟨-, h0⟩ | ⟨h0, hj⟩
  · cases h0
  · rcases mx_lo_st1 hj with ⟨rfl, rfl⟩ | ⟨h1, h2, h3⟩
    · exact h.2.2 (j, mx_rv g w) List.mem_cons_self
    · refine h.2.2 (j, mx_rv g w) (List.mem_cons_of_mem _ (List.mem_filter.mpr ⟨mx_al_mem h2, ?_⟩))
      simp only [Bool.and_eq_true, Bool.not_eq_true', beq_eq_false_iff_ne, Bool.and_eq_false_iff]
      refine ⟨h1, h0, ?_⟩
      by_cases q : j + 1 = i
      · exact Or.inr fun z => h3 ⟨q, mx_lg_of hq z⟩
      · exact Or.inl q
/-! what an update does to the cells -/
theorem mx_up_o {σ : mx_S} {k o j : Nat} {x : Int32} {k' o' : Nat} (h : (k', o') ≠ (k, o)) : mx_up σ k o j x k' o' = σ k' o' := by
  funext j'
  show (if k' = k ∧ o' = o ∧ j' = j then x else σ k' o' j') = _
  rw [if_neg (fun q => h (by rw [q.1, q.2.1]))]
theorem mx_up_s {σ : mx_S} {k o j : Nat} {x : Int32} : mx_up σ k o j x k o = upd (σ k o) j x := by
  funext j'
  show (if k = k ∧ o = o ∧ j' = j then x else σ k o j') = if j' = j then x else σ k o j'
  by_cases h : j' = j
  · rw [if_pos ⟨rfl, rfl, h⟩, if_pos h]
  · rw [if_neg (fun q => h q.2.2), if_neg h]
theorem mx_cell_congr {g : mx_G} {σ τ : mx_S} {k o : Nat} (h : τ k o = σ k o) : mx_cell g τ k o = mx_cell g σ k o := by
  have e : mx_fv g τ k o = mx_fv g σ k o := by
    funext j
    unfold mx_fv
    rw [h]
  unfold mx_cell
  rw [e, h]
