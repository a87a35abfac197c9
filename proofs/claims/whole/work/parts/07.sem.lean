/-! ===== what a method does ===== -/
/-- the locals at a method's entry -/
def mx_ent : Nat → List mx_V → mx_Loc
  | 0, _ => []
  | n + 1, [] => none :: mx_ent n []
  | 1, v :: _ => [some v]
  | n + 2, Sum.inr (Sum.inl x) :: as => some (Sum.inr (Sum.inl x)) :: none :: mx_ent n as
  | n + 2, v :: as => some v :: mx_ent (n + 1) as
noncomputable def mx_sem : Nat → List mx_V → mx_S → Option mx_Rt := WellFounded.fix Nat.lt_wfRel.wf (fun y ih as σ => mx_LL (fun y' as' σ' => if h : y' < y then ih y' h as' σ' else none) (mx_pr y) 0 (mx_ent (mx_nl y) as) σ)
noncomputable def mx_E (y : Nat) (y' : Nat) (as : List mx_V) (σ : mx_S) : Option mx_Rt := if y' < y then mx_sem y' as σ else none
noncomputable def mx_H (y h : Nat) (loc : mx_Loc) (σ : mx_S) : Option mx_Rt := mx_LL (mx_E y) (mx_pr y) h loc σ
theorem mx_H_eq (y h : Nat) (loc : mx_Loc) (σ : mx_S) : mx_H y h loc σ = mx_run (mx_E y) (mx_pr y) (mx_H y) 2000 ((mx_pr y).drop (h + 1)) loc [] σ := mx_LL_eq (mx_E y) (mx_pr y) h loc σ
theorem mx_sem_eq (y : Nat) (as : List mx_V) (σ : mx_S) : mx_sem y as σ = mx_run (mx_E y) (mx_pr y) (mx_H y) 2000 ((mx_pr y).drop 1) (mx_ent (mx_nl y) as) [] σ := by
  have h0 : mx_sem y as σ = mx_H y 0 (mx_ent (mx_nl y) as) σ := by
    unfold mx_H mx_sem
    rw [WellFounded.fix_eq]
    congr 1
  rw [h0]
  exact mx_H_eq y 0 _ σ
