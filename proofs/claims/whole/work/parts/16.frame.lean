/-! ===== a method keeps to the cells of its side ===== -/
def mx_okG (G : Nat → Prop) : mx_V → Prop
  | Sum.inr (Sum.inr q) => q.2 < 55 → G q.2
  | _ => True
def mx_gS (G : Nat → Prop) (s : List mx_V) : Prop := ∀ v ∈ s, mx_okG G v
def mx_gL (G : Nat → Prop) (l : mx_Loc) : Prop := ∀ i v, mx_lo l i = some v → mx_okG G v
def mx_ag (G : Nat → Prop) (σ τ : mx_S) : Prop := ∀ k o, ¬ G o → τ k o = σ k o
theorem mx_ag_rf {G : Nat → Prop} {σ : mx_S} : mx_ag G σ σ := fun _ _ _ => rfl
theorem mx_ag_up {G : Nat → Prop} {σ : mx_S} {k o j : Nat} {x : Int32} (h : G o) : mx_ag G σ (mx_up σ k o j x) := fun k' o' h' => mx_up_o (fun q => h' (by cases q; exact h))
theorem mx_ag_cp {G : Nat → Prop} {σ : mx_S} {k o k1 o1 sp dp n : Nat} (h : G o1) : mx_ag G σ (mx_cp σ k o k1 o1 sp dp n) := fun k' o' h' => by
  funext j
  exact if_neg (fun q => h' (by rw [q.2]; exact h))
theorem mx_gS_cons {G : Nat → Prop} {v : mx_V} {s : List mx_V} : mx_gS G (v :: s) ↔ mx_okG G v ∧ mx_gS G s := List.forall_mem_cons
theorem mx_gS_nil {G : Nat → Prop} : mx_gS G [] := fun _ h => absurd h List.not_mem_nil
theorem mx_gL_st1 {G : Nat → Prop} {l : mx_Loc} {a : Nat} {v : mx_V} (hl : mx_gL G l) (hv : mx_okG G v) : mx_gL G (mx_st1 l a v) := fun i w h => by
  rcases mx_lo_st1 h with ⟨-, rfl⟩ | ⟨-, h, -⟩
  · exact hv
  · exact hl i w h
theorem mx_gL_set {G : Nat → Prop} {l : mx_Loc} {a : Nat} (hl : mx_gL G l) : mx_gL G (l.set a none) := fun i w h => by
  rcases mx_lo_set _ _ _ _ _ h with ⟨-, h⟩ | ⟨-, h⟩
  · cases h
  · exact hl i w h
def mx_cl1 (G : Nat → Prop) : Prop := (∀ o, o < 55 → G o → ∀ k j, mx_fk o j = 2 ∨ mx_fk o j = 3 → (mx_pt k o j).2 < 55 → G (mx_pt k o j).2) ∧ (∀ o, o < 55 → G o → ∀ j, 4 ≤ mx_aT o → (mx_rA o j).2 < 55 → G (mx_rA o j).2)
set_option maxHeartbeats 4000000 in
theorem mx_stepG {G : Nat → Prop} (hG : mx_cl1 G) (i : mx_Op) (loc : mx_Loc) (stk : List mx_V) (σ : mx_S) (hl : mx_gL G loc) (hs : mx_gS G stk) : mx_step (fun l s τ => mx_ag G σ τ ∧ mx_gL G l ∧ mx_gS G s) (fun _ l s τ => mx_ag G σ τ ∧ mx_gL G l ∧ mx_gS G s) (fun _ τ => mx_ag G σ τ) (fun _ _ as l s τ => mx_ag G σ τ ∧ mx_gS G as ∧ mx_gL G l ∧ mx_gS G s) (fun _ l τ => mx_ag G σ τ ∧ mx_gL G l) True i loc stk σ := by
  obtain ⟨op, im, jm, a, b, ts⟩ := i
  rcases op with _ | _ | _ | _ | _ | _ | _ | _ | _ | _ | _ | _ | _ | _ | _ | _ | _ | _ | _ | _ | _ | _ | _ | _ | _ | _ | _ | _ | _ | _ | _ | _ | _ | _ | _ | _ | _ | _ | _ | _ | _ | _ | _ | _ | _ | _ | _ | _ | op
  · rw [mx_s0]
    (repeat' split) <;> first | exact ⟨mx_ag_rf, hl, mx_gS_cons.mpr ⟨trivial, hs⟩⟩ | trivial
  · rw [mx_s1]
    (repeat' split) <;> first | exact ⟨mx_ag_rf, hl, mx_gS_cons.mpr ⟨trivial, hs⟩⟩ | trivial
  · rw [mx_s2]
    split
    · rename_i k o h0
      split
      · exact ⟨mx_ag_rf, hl, mx_gS_cons.mpr ⟨hl a _ h0, hs⟩⟩
      · trivial
    · trivial
  · rw [mx_s3]
    split
    · exact ⟨mx_ag_rf, mx_gL_st1 hl trivial, (mx_gS_cons.mp hs).2⟩
    · trivial
  · rw [mx_s4]
    split
    · exact ⟨mx_ag_rf, mx_gL_set (mx_gL_st1 hl trivial), (mx_gS_cons.mp hs).2⟩
    · trivial
  · rw [mx_s5]
    split
    · split
      · exact ⟨mx_ag_rf, mx_gL_st1 hl (mx_gS_cons.mp hs).1, (mx_gS_cons.mp hs).2⟩
      · trivial
    · trivial
  · rw [mx_s6]
    exact ⟨mx_ag_rf, hl, mx_gS_cons.mpr ⟨trivial, hs⟩⟩
  · rw [mx_s7]
    exact ⟨mx_ag_rf, hl, mx_gS_cons.mpr ⟨trivial, hs⟩⟩
  · rw [mx_s8]
    unfold mx_bin
    (repeat' split) <;> first | exact ⟨mx_ag_rf, hl, mx_gS_cons.mpr ⟨trivial, (mx_gS_cons.mp (mx_gS_cons.mp hs).2).2⟩⟩ | trivial
  · rw [mx_s9]
    unfold mx_d mx_div
    (repeat' split) <;> first | exact ⟨mx_ag_rf, hl, mx_gS_cons.mpr ⟨trivial, (mx_gS_cons.mp (mx_gS_cons.mp hs).2).2⟩⟩ | trivial
  · rw [mx_s10]
    unfold mx_un
    (repeat' split) <;> first | exact ⟨mx_ag_rf, hl, mx_gS_cons.mpr ⟨trivial, (mx_gS_cons.mp hs).2⟩⟩ | trivial
  · rw [mx_s11]
    unfold mx_lb
    (repeat' split) <;> first | exact ⟨mx_ag_rf, hl, mx_gS_cons.mpr ⟨trivial, (mx_gS_cons.mp (mx_gS_cons.mp hs).2).2⟩⟩ | trivial
  · rw [mx_s12]
    unfold mx_lsh
    (repeat' split) <;> first | exact ⟨mx_ag_rf, hl, mx_gS_cons.mpr ⟨trivial, (mx_gS_cons.mp (mx_gS_cons.mp hs).2).2⟩⟩ | trivial
  · rw [mx_s13]
    (repeat' split) <;> first | exact ⟨mx_ag_rf, hl, mx_gS_cons.mpr ⟨trivial, (mx_gS_cons.mp (mx_gS_cons.mp hs).2).2⟩⟩ | trivial
  · rw [mx_s14]
    (repeat' split) <;> first | exact ⟨mx_ag_rf, hl, mx_gS_cons.mpr ⟨trivial, (mx_gS_cons.mp hs).2⟩⟩ | trivial
  · rw [mx_s15]
    (repeat' split) <;> first | exact ⟨mx_ag_rf, hl, mx_gS_cons.mpr ⟨trivial, (mx_gS_cons.mp hs).2⟩⟩ | trivial
  · rw [mx_s16]
    split
    · exact ⟨mx_ag_rf, mx_gL_st1 hl trivial, hs⟩
    · trivial
  · rw [mx_s17]
    (repeat' split) <;> first | exact ⟨mx_ag_rf, hl, mx_gS_cons.mpr ⟨(mx_gS_cons.mp hs).1, hs⟩⟩ | trivial
  · rw [mx_s18]
    (repeat' split) <;> first | exact ⟨mx_ag_rf, hl, mx_gS_cons.mpr ⟨(mx_gS_cons.mp hs).1, mx_gS_cons.mpr ⟨(mx_gS_cons.mp (mx_gS_cons.mp hs).2).1, hs⟩⟩⟩ | trivial
  · rw [mx_s19]
    unfold mx_if
    (repeat' split) <;> first | exact ⟨mx_ag_rf, hl, (mx_gS_cons.mp hs).2⟩ | trivial
  · rw [mx_s20]
    unfold mx_if
    (repeat' split) <;> first | exact ⟨mx_ag_rf, hl, (mx_gS_cons.mp (mx_gS_cons.mp hs).2).2⟩ | trivial
  · rw [mx_s21]
    exact ⟨mx_ag_rf, hl, hs⟩
  · rw [mx_s22]
    split
    · rename_i x r
      rw [mx_sw_map x (fun _ : Nat => mx_ag G σ σ ∧ mx_gL G loc ∧ mx_gS G r) a b ts]
      exact ⟨mx_ag_rf, hl, (mx_gS_cons.mp hs).2⟩
    · trivial
  · rw [mx_s23]
    unfold mx_getf
    split
    · rename_i k o r
      split
      · rename_i hb
        have ho := mx_cO_lt (Nat.eq_of_beq_eq_true hb)
        have hg := (mx_gS_cons.mp hs).1 ho
        split
        · rename_i hf
          exact ⟨mx_ag_rf, hl, mx_gS_cons.mpr ⟨fun z => hG.1 o ho hg k b (Or.inl hf) z, (mx_gS_cons.mp hs).2⟩⟩
        · rename_i hf
          show (if σ k o b = 0 then True else _)
          split
          · trivial
          · exact ⟨mx_ag_rf, hl, mx_gS_cons.mpr ⟨fun z => hG.1 o ho hg k b (Or.inr hf) z, (mx_gS_cons.mp hs).2⟩⟩
        · exact ⟨mx_ag_rf, hl, mx_gS_cons.mpr ⟨trivial, (mx_gS_cons.mp hs).2⟩⟩
      · trivial
    · trivial
  · rw [mx_s24]
    unfold mx_putf mx_z mx_w
    split
    · split
      · rename_i hb
        have ho := mx_cO_lt (Nat.eq_of_beq_eq_true hb)
        have hg := (mx_gS_cons.mp (mx_gS_cons.mp hs).2).1 ho
        (repeat' split) <;> first | exact ⟨mx_ag_up hg, hl, (mx_gS_cons.mp (mx_gS_cons.mp hs).2).2⟩ | trivial
      · trivial
    · split
      · rename_i hb
        have ho := mx_cO_lt (Nat.eq_of_beq_eq_true hb)
        have hg := (mx_gS_cons.mp (mx_gS_cons.mp hs).2).1 ho
        (repeat' split) <;> first | exact ⟨mx_ag_up hg, hl, (mx_gS_cons.mp (mx_gS_cons.mp hs).2).2⟩ | trivial
      · trivial
    · trivial
  · rw [mx_s25]
    unfold mx_g
    (repeat' split) <;> first | exact ⟨mx_ag_rf, hl, mx_gS_cons.mpr ⟨trivial, (mx_gS_cons.mp (mx_gS_cons.mp hs).2).2⟩⟩ | trivial
  · rw [mx_s26]
    split
    · split
      · rename_i hb
        have ho := mx_aT_lt (Nat.eq_of_beq_eq_true hb)
        have hg := (mx_gS_cons.mp (mx_gS_cons.mp (mx_gS_cons.mp hs).2).2).1 ho
        unfold mx_g mx_w
        split
        · trivial
        · exact ⟨mx_ag_up hg, hl, (mx_gS_cons.mp (mx_gS_cons.mp (mx_gS_cons.mp hs).2).2).2⟩
      · trivial
    · trivial
  · rw [mx_s27]
    unfold mx_g
    (repeat' split) <;> first | exact ⟨mx_ag_rf, hl, mx_gS_cons.mpr ⟨trivial, (mx_gS_cons.mp (mx_gS_cons.mp hs).2).2⟩⟩ | trivial
  · rw [mx_s28]
    split
    · split
      · rename_i hb
        have ho := mx_aT_lt (Nat.eq_of_beq_eq_true hb)
        have hg := (mx_gS_cons.mp (mx_gS_cons.mp (mx_gS_cons.mp hs).2).2).1 ho
        unfold mx_g mx_w
        split
        · trivial
        · exact ⟨mx_ag_up hg, hl, (mx_gS_cons.mp (mx_gS_cons.mp (mx_gS_cons.mp hs).2).2).2⟩
      · trivial
    · trivial
  · rw [mx_s29]
    split
    · split
      · rename_i hb
        have e4 := Nat.eq_of_beq_eq_true hb
        have ho := mx_aT_lt e4
        have hg := (mx_gS_cons.mp (mx_gS_cons.mp hs).2).1 ho
        unfold mx_g
        split
        · trivial
        · exact ⟨mx_ag_rf, hl, mx_gS_cons.mpr ⟨fun z => hG.2 _ ho hg _ (by omega) z, (mx_gS_cons.mp (mx_gS_cons.mp hs).2).2⟩⟩
      · trivial
    · trivial
  · rw [mx_s30]
    (repeat' split) <;> first | exact ⟨mx_ag_rf, hl, mx_gS_cons.mpr ⟨trivial, (mx_gS_cons.mp hs).2⟩⟩ | trivial
  · rw [mx_s31]
    split
    · exact ⟨mx_ag_rf, fun v hv => hs v (List.mem_of_mem_take (List.mem_reverse.mp hv)), hl, fun v hv => hs v (List.mem_of_mem_drop hv)⟩
    · trivial
  · rw [mx_s32]
    unfold mx_z
    (repeat' split) <;> first | exact mx_ag_rf | trivial
  · rw [mx_s33]
    (repeat' split) <;> first | exact mx_ag_rf | trivial
  · rw [mx_s34]
    (repeat' split) <;> first | exact mx_ag_rf | trivial
  · rw [mx_s35]
    exact ⟨mx_ag_rf, hl, mx_gS_cons.mpr ⟨(fun z => absurd (show mx_oS < 55 from z) (by decide)), hs⟩⟩
  · rw [mx_s36]
    split
    · split
      · rename_i h1 h2
        have ho := mx_aT_lt (Nat.eq_of_beq_eq_true h2)
        have hg := (mx_gS_cons.mp (mx_gS_cons.mp (mx_gS_cons.mp hs).2).2).1 ho
        split
        · unfold mx_c
          split
          · trivial
          · exact ⟨mx_ag_cp hg, hl, (mx_gS_cons.mp (mx_gS_cons.mp (mx_gS_cons.mp (mx_gS_cons.mp (mx_gS_cons.mp hs).2).2).2).2).2⟩
        · trivial
      · trivial
    · trivial
  · rw [mx_s37]
    exact ⟨mx_ag_rf, hl, mx_gS_cons.mpr ⟨trivial, hs⟩⟩
  · rw [mx_s38]
    exact ⟨mx_ag_rf, hl, mx_gS_cons.mpr ⟨(fun z => absurd (show mx_oQ < 55 from z) (by decide)), hs⟩⟩
  · rw [mx_s39]
    split
    · split
      · split
        · exact ⟨mx_ag_rf, hl, mx_gS_cons.mpr ⟨fun z => absurd (show mx_oB < 55 from z) (by decide), (mx_gS_cons.mp hs).2⟩⟩
        · exact ⟨mx_ag_rf, hl, mx_gS_cons.mpr ⟨trivial, (mx_gS_cons.mp hs).2⟩⟩
      · trivial
    · trivial
  · rw [mx_s40]
    (repeat' split) <;> first | exact ⟨mx_ag_rf, hl, mx_gS_cons.mpr ⟨trivial, (mx_gS_cons.mp hs).2⟩⟩ | trivial
  · rw [mx_s41]
    unfold mx_g
    (repeat' split) <;> first | exact ⟨mx_ag_rf, hl, mx_gS_cons.mpr ⟨trivial, (mx_gS_cons.mp (mx_gS_cons.mp hs).2).2⟩⟩ | trivial
  · rw [mx_s42]
    split
    · exact ⟨mx_ag_rf, hl, (mx_gS_cons.mp hs).2⟩
    · trivial
  · rw [mx_s43]
    unfold mx_g
    (repeat' split) <;> first | exact ⟨mx_ag_rf, hl, mx_gS_cons.mpr ⟨trivial, (mx_gS_cons.mp (mx_gS_cons.mp hs).2).2⟩⟩ | trivial
  · rw [mx_s44]
    (repeat' split) <;> first | exact ⟨mx_ag_rf, hl, mx_gS_cons.mpr ⟨trivial, (mx_gS_cons.mp hs).2⟩⟩ | trivial
  · rw [mx_s45]
    split
    · exact ⟨mx_ag_rf, fun i v hi => hl i v (mx_lo_kp hi)⟩
    · trivial
  · rw [mx_s46]
    (repeat' split) <;> first | exact ⟨mx_ag_rf, hl, mx_gS_cons.mpr ⟨trivial, (mx_gS_cons.mp (mx_gS_cons.mp hs).2).2⟩⟩ | trivial
  · rw [mx_s47]
    (repeat' split) <;> first | exact ⟨mx_ag_rf, hl, mx_gS_cons.mpr ⟨trivial, (mx_gS_cons.mp hs).2⟩⟩ | trivial
  · trivial
theorem mx_runG {G : Nat → Prop} (hG : mx_cl1 G) {E : Nat → List mx_V → mx_S → Option mx_Rt} {P : List mx_Op} {K : Nat → mx_Loc → mx_S → Option mx_Rt} (hE : ∀ y as σ r, mx_gS G as → E y as σ = some r → mx_ag G σ r.2) (hK : ∀ h l σ r, mx_gL G l → K h l σ = some r → mx_ag G σ r.2) : ∀ n c l s σ r, mx_gL G l → mx_gS G s → mx_run E P K n c l s σ = some r → mx_ag G σ r.2 := by
  have tr : ∀ {σ τ ρ : mx_S}, mx_ag G σ τ → mx_ag G τ ρ → mx_ag G σ ρ := fun h1 h2 k o h => (h2 k o h).trans (h1 k o h)
  intro n
  induction n with
  | zero => intro c l s σ r _ _ h; cases c <;> cases h
  | succ n ih =>
    intro c l s σ r hl hs h
    cases c with
    | nil => cases h
    | cons i c =>
      rw [mx_run_s] at h
      have hx := mx_stepG hG i l s σ hl hs
      rw [mx_fac] at hx
      generalize mx_act i l s σ = q at h hx
      rcases q with _ | (⟨l', s', σ'⟩ | ⟨t, l', s', σ'⟩ | ⟨v, σ'⟩ | ⟨y, rk, as, l', s', σ'⟩ | ⟨h', l', σ'⟩)
      · cases h
      · exact tr hx.1 (ih _ _ _ _ _ hx.2.1 hx.2.2 h)
      · exact tr hx.1 (ih _ _ _ _ _ hx.2.1 hx.2.2 h)
      · cases h; exact hx
      · obtain ⟨h1, h2, h3, h4⟩ := hx
        refine tr (τ := σ') h1 ?_
        rcases rk with _ | _ | rk
        · obtain ⟨σ2, e, h⟩ := mx_bV_iff.mp h
          exact tr (hE _ _ _ _ h2 e) (ih _ _ _ _ _ h3 h4 h)
        · obtain ⟨x, σ2, e, h⟩ := mx_bI_iff.mp h
          exact tr (hE _ _ _ _ h2 e) (ih _ _ _ _ _ h3 ((mx_gS_cons (v := Sum.inl x)).mpr ⟨trivial, h4⟩) h)
        · obtain ⟨x, σ2, e, h⟩ := mx_bJ_iff.mp h
          exact tr (hE _ _ _ _ h2 e) (ih _ _ _ _ _ h3 ((mx_gS_cons (v := Sum.inr (Sum.inl x))).mpr ⟨trivial, h4⟩) h)
      · exact tr hx.1 (hK _ _ _ _ hx.2 h)
theorem mx_semG {G : Nat → Prop} (hG : mx_cl1 G) : ∀ y as σ r, mx_gS G as → mx_sem y as σ = some r → mx_ag G σ r.2 := by
  intro y
  induction y using Nat.strongRecOn with
  | _ y ih =>
    intro as σ r hs h
    rw [mx_sem_H] at h
    obtain ⟨n, h⟩ := (mx_LL_iff _ _ _ _ _ _).mp h
    have key : ∀ n h l σ r, mx_gL G l → mx_L (mx_E y) (mx_pr y) n h l σ = some r → mx_ag G σ r.2 := by
      intro n
      induction n with
      | zero => intro h l σ r _ q; cases q
      | succ n ihn =>
        intro h l σ r hl q
        refine mx_runG hG (fun y' as' σ' r' h1 h' => ?_) (fun h l σ r hl q => ihn h l σ r hl q) _ _ _ _ _ _ hl mx_gS_nil q
        unfold mx_E at h'
        split at h'
        · rename_i hy
          exact ih y' hy as' σ' r' h1 h'
        · cases h'
    exact key n 0 _ _ _ (fun i v hi => hs v (mx_ent_ok as _ i v hi)) h
def mx_GX (o : Nat) : Prop := o < 39
def mx_GM (o : Nat) : Prop := 39 ≤ o ∧ o < 55
theorem mx_fk_out {o j : Nat} (h : mx_nf o ≤ j) : mx_fk o j = 0 := mx_nth_ge _ _ h
theorem mx_pt_2 (k o j : Nat) : (mx_pt k o j).2 = (mx_nthP (mx_nthL mx_ptT o) j).2.2 := by
  rw [mx_pt_if]
  split <;> rfl
theorem mx_GX_cl : mx_cl1 mx_GX := by
  have t1 : ∀ o, o < 39 → ∀ j, j < mx_nf o → mx_fk o j = 2 ∨ mx_fk o j = 3 → (mx_nthP (mx_nthL mx_ptT o) j).2.2 < 39 := by decide +kernel
  refine ⟨fun o _ ho k j hf _ => ?_, fun o _ ho j ht _ => ?_⟩
  · rw [mx_pt_2]
    rcases Nat.lt_or_ge j (mx_nf o) with hj | hj
    · exact t1 o ho j hj hf
    · rw [mx_fk_out hj] at hf; omega
  · unfold mx_rA
    split
    · show 32 < 39; omega
    · show 0 < 39; omega
theorem mx_GM_cl : mx_cl1 mx_GM := by
  have t1 : ∀ o, o < 55 → 39 ≤ o → ∀ j, j < mx_nf o → mx_fk o j = 2 ∨ mx_fk o j = 3 → 39 ≤ (mx_nthP (mx_nthL mx_ptT o) j).2.2 := by decide +kernel
  have t2 : ∀ o, o < 55 → 39 ≤ o → mx_aT o < 4 := by decide +kernel
  refine ⟨fun o h5 ho k j hf hp => ?_, fun o h5 ho j ht _ => ?_⟩
  · refine ⟨?_, hp⟩
    rw [mx_pt_2]
    rcases Nat.lt_or_ge j (mx_nf o) with hj | hj
    · exact t1 o h5 ho.1 j hj hf
    · rw [mx_fk_out hj] at hf; omega
  · have := t2 o h5 ho.1; omega
/-- a method of the class leaves the reference's cells, and the other way round -/
theorem mx_frX {y : Nat} {as : List mx_V} {σ : mx_S} {r : mx_Rt} (h : mx_sem y as σ = some r) (hs : mx_gS mx_GX as) : ∀ k o, 39 ≤ o → r.2 k o = σ k o := fun k o ho => mx_semG mx_GX_cl y as σ r hs h k o (by show ¬ o < 39; omega)
theorem mx_frM {y : Nat} {as : List mx_V} {σ : mx_S} {r : mx_Rt} (h : mx_sem y as σ = some r) (hs : mx_gS mx_GM as) : ∀ k o, o < 39 → r.2 k o = σ k o := fun k o ho => mx_semG mx_GM_cl y as σ r hs h k o (by show ¬ (39 ≤ o ∧ o < 55); omega)
