theorem dx_inst : ∀ i, i < 9 → Cond.instantiable (mx_cl i).1 (mx_cl i).2.2 ∈ lw_gd := by
  intro i hi
  rcases (show i = 0 ∨ i = 1 ∨ i = 2 ∨ i = 3 ∨ i = 4 ∨ i = 5 ∨ i = 6 ∨ i = 7 ∨ i = 8 by omega) with rfl | rfl | rfl | rfl | rfl | rfl | rfl | rfl | rfl
  · exact dxw_357
  · exact dxw_276
  · exact dxw_155
  · exact dxw_161
  · exact dxw_120
  · exact dxw_374
  · exact dxw_260
  · exact dxw_110
  · exact dxw_926
theorem dx_aci : Cond.arrayClass .int ∈ lw_gd := dxw_258
theorem dx_acb : Cond.arrayClass .byte ∈ lw_gd := dxw_153
theorem dx_acz : Cond.arrayClass .boolean ∈ lw_gd := dxw_1031
set_option maxRecDepth 100000 in
set_option maxHeartbeats 8000000 in
theorem dx_ao5 : Cond.arrayOver (.object RX5) ∈ lw_tbl := (List.mem_of_getElem? (i := 118) rfl)
set_option maxRecDepth 100000 in
set_option maxHeartbeats 8000000 in
theorem dx_ao2 : Cond.arrayOver (.object RX2) ∈ lw_tbl := (List.mem_of_getElem? (i := 355) rfl)
set_option maxRecDepth 100000 in
set_option maxHeartbeats 8000000 in
theorem dx_nw_in : ∀ t ∈ dx_nw, Cond.methodLinkNest t.1 t.2.1 t.2.2 "RailOfHeads" ∈ lw_tbl := List.forall_mem_cons.mpr ⟨(List.mem_of_getElem? (i := 121) rfl), List.forall_mem_cons.mpr ⟨(List.mem_of_getElem? (i := 156) rfl), List.forall_mem_cons.mpr ⟨(List.mem_of_getElem? (i := 162) rfl), List.forall_mem_cons.mpr ⟨(List.mem_of_getElem? (i := 261) rfl), List.forall_mem_cons.mpr ⟨(List.mem_of_getElem? (i := 375) rfl), fun _ h => absurd h List.not_mem_nil⟩⟩⟩⟩⟩
set_option maxRecDepth 100000 in
set_option maxHeartbeats 8000000 in
theorem dx_nw2_in : ∀ t ∈ mx_nwT, Cond.methodLinkNest (mx_on t.1) t.2.1 (mx_mN t.2.2) "RailOfHeads" ∈ lw_tbl := List.forall_mem_cons.mpr ⟨(List.mem_of_getElem? (i := 691) rfl), List.forall_mem_cons.mpr ⟨(List.mem_of_getElem? (i := 502) rfl), List.forall_mem_cons.mpr ⟨(List.mem_of_getElem? (i := 853) rfl), List.forall_mem_cons.mpr ⟨(List.mem_of_getElem? (i := 908) rfl), fun _ h => absurd h List.not_mem_nil⟩⟩⟩⟩
set_option maxRecDepth 100000 in
set_option maxHeartbeats 8000000 in
theorem dx_ls1 : Cond.laysStatic "java/lang/String" "COMPACT_STRINGS" "Z" ∈ lw_tbl := (List.mem_of_getElem? (i := 533) rfl)
set_option maxRecDepth 100000 in
set_option maxHeartbeats 8000000 in
theorem dx_ls2 : Cond.laysStatic "jdk/internal/util/Preconditions" "SIOOBE_FORMATTER" "Ljava/util/function/BiFunction;" ∈ lw_tbl := (List.mem_of_getElem? (i := 549) rfl)
theorem dx_li1 : Cond.initialized "java/lang/String" ∈ lw_gd := dxw_103
theorem dx_li2 : Cond.initialized "jdk/internal/util/Preconditions" ∈ lw_gd := dxw_105
set_option maxRecDepth 100000 in
set_option maxHeartbeats 8000000 in
theorem dx_sr : ∀ i, i < 9 → Cond.stringRef RX4 (mx_nth mx_sPT i) (mx_sX i) ∈ lw_tbl := by
  intro i hi
  rcases (show i = 0 ∨ i = 1 ∨ i = 2 ∨ i = 3 ∨ i = 4 ∨ i = 5 ∨ i = 6 ∨ i = 7 ∨ i = 8 by omega) with rfl | rfl | rfl | rfl | rfl | rfl | rfl | rfl | rfl
  · exact (List.mem_of_getElem? (i := 515) rfl)
  · exact (List.mem_of_getElem? (i := 584) rfl)
  · exact (List.mem_of_getElem? (i := 593) rfl)
  · exact (List.mem_of_getElem? (i := 594) rfl)
  · exact (List.mem_of_getElem? (i := 603) rfl)
  · exact (List.mem_of_getElem? (i := 612) rfl)
  · exact (List.mem_of_getElem? (i := 620) rfl)
  · exact (List.mem_of_getElem? (i := 621) rfl)
  · exact (List.mem_of_getElem? (i := 622) rfl)
/-! ===== what the statement gives of the start ===== -/
abbrev dx_tm (i : Nat) : Term := .string RX4 (mx_nth mx_sPT i)
abbrev dx_fl : List Cond := flatC (Jvm.Cond.and given_1 narrow_1)
theorem dx_g1 : ∀ i, i < 9 → Cond.exactly (dx_tm i) "java/lang/String" ∈ dx_fl := by decide +kernel
theorem dx_g2 : ∀ i, i < 9 → Cond.eq (.field (dx_tm i) "java/lang/String" "coder" "B") (.int 0) ∈ dx_fl := by decide +kernel
theorem dx_g3 : ∀ i, i < 9 → Cond.arrayOf (.field (dx_tm i) "java/lang/String" "value" "[B") .byte ∈ dx_fl := by decide +kernel
theorem dx_g4 : ∀ i, i < 9 → Cond.eq (.length (.field (dx_tm i) "java/lang/String" "value" "[B")) (.int (Int32.ofNat (mx_sNT.getD i 0))) ∈ dx_fl := by decide +kernel
theorem dx_g5 : ∀ i, i < 9 → ∀ j, j < mx_sNT.getD i 0 → Cond.eq (.elem (.field (dx_tm i) "java/lang/String" "value" "[B") (.int (Int32.ofNat j))) (.int ((mx_sT.getD i []).getD j 0)) ∈ dx_fl := by decide +kernel
theorem dx_g6 : ∀ i, i < 9 → ∀ j, j < 9 → i ≠ j → Cond.not (Cond.eq (dx_tm i) (dx_tm j)) ∈ dx_fl ∨ Cond.not (Cond.eq (dx_tm j) (dx_tm i)) ∈ dx_fl := by decide +kernel
theorem dx_g7 : Cond.eq (.static "java/lang/String" "COMPACT_STRINGS" "Z") (.int 1) ∈ dx_fl := by decide +kernel
theorem dx_g8 : Cond.isRef (.static "jdk/internal/util/Preconditions" "SIOOBE_FORMATTER" "Ljava/util/function/BiFunction;") ∈ dx_fl := by decide +kernel
theorem dx_sN31 : ∀ i, i < 9 → mx_sNT.getD i 0 < 2 ^ 31 := by decide +kernel
theorem dx_strings {args : Array Value} {s : State} {A : Nat → Prop} (h : ∀ w ∈ dx_fl, w.before args s = true) (hA : ∀ a : Nat, a < s.heap.size → ¬ A a) : ∃ adK adV : Nat → Nat, vk_S 9 mx_sNT mx_sT adK adV A s s.heap ∧ ∀ i : Nat, i < 9 → (dx_tm i).eval args s none [] s = some (.ref (adK i)) :=
  vk_Sof (tm := dx_tm) dx_sN31 (fun i hi => h _ (dx_g1 i hi)) (fun i hi => h _ (dx_g2 i hi)) (fun i hi => h _ (dx_g3 i hi)) (fun i hi => h _ (dx_g4 i hi)) (fun i hi j hj => h _ (dx_g5 i hi j hj)) (fun i j hi hj hij => (dx_g6 i hi j hj hij).elim (fun q => Or.inl (h _ q)) (fun q => Or.inr (h _ q))) hA
theorem dx_classes {args : Array Value} {s : State} (hts : ∀ w ∈ lw_gd, w.before args s = true) : ∃ D : va_G, ∀ (c : Nat) (q : vw_C), vwCl[c]? = some q → u_Kn s q.1 q.2.1 q.2.2 (D.1 c) (D.2 c) := by
  have h0 : ∀ i : Nat, ∃ q : ClassId × (Nat → Nat), i < 9 → u_Kn s (mx_cl i).1 (mx_cl i).2.1 (mx_cl i).2.2 q.1 q.2 := by
    intro i
    by_cases hi : i < 9
    · obtain ⟨c, iS, h⟩ := u_known (C := (mx_cl i).1) (T := (mx_cl i).2.1) (N := (mx_cl i).2.2) (n := (mx_cl i).2.2) hts (mx_uw i hi) (hts _ (dx_inst i hi))
      exact ⟨(c, iS), fun _ => h⟩
    · exact ⟨(default, fun _ => 0), fun h => absurd h hi⟩
  obtain ⟨f, hf⟩ := Classical.axiomOfChoice h0
  refine ⟨(fun i => (f i).1, fun i => (f i).2), fun c q hq => ?_⟩
  have hc : c < 9 := (List.getElem?_eq_some_iff.mp hq).1
  have e : q = mx_cl c := Option.some.inj (hq.symm.trans (mx_cl_at hc))
  subst e
  exact hf c hc
theorem dx_prim {args : Array Value} {s : State} {ty : FieldType} (h : (Cond.arrayClass ty).before args s = true) : ∃ cA : ClassId, ArrOfT s cA ty ∧ s.vm.findClass ("[" ++ ty.toString) = some cA := by
  obtain ⟨c, k, comp, h1, h2, h3⟩ := Cond.arrayClass_spec h
  exact ⟨c, fun n z => ⟨fun k h => (by cases h), k, h2, comp, h3⟩, h1⟩
theorem dx_refs {args : Array Value} {s : State} {C : String} (h : (Cond.arrayOver (.object C)).before args s = true) : ∃ cA : ClassId, ArrOfT s cA (.object C) ∧ va_RA s cA (.object C) := by
  obtain ⟨comp, c, k, h1, -, h3, h4, h5⟩ := Cond.arrayOver_spec h
  exact ⟨c, fun n z => ⟨fun k h => (by cases h), k, h3, comp, h4⟩, k, comp, h3, h4, h1, h5⟩
theorem dx_K0 {args : Array Value} {s : State} (hts0 : ∀ w ∈ lw_tbl, w.before args s = true) : ∃ (D : va_G) (d : Nat → ClassId), dx_K D d s := by
  have hts : ∀ w ∈ lw_gd, w.before args s = true := fun w hw => hts0 w (List.mem_filter.mp hw).1
  obtain ⟨D, hD⟩ := dx_classes hts
  obtain ⟨c1, a1, b1⟩ := dx_prim (hts _ dx_aci)
  obtain ⟨c2, a2, b2⟩ := dx_prim (hts _ dx_acb)
  obtain ⟨c3, a3, b3⟩ := dx_prim (hts _ dx_acz)
  obtain ⟨c4, a4, b4⟩ := dx_refs (hts0 _ dx_ao5)
  obtain ⟨c5, a5, b5⟩ := dx_refs (hts0 _ dx_ao2)
  refine ⟨D, fun t => if t = 1 then c1 else if t = 2 then c2 else if t = 3 then c3 else if t = 4 then c4 else c5, ⟨hD, fun k q hk => ?_⟩, ⟨va_AO.of (hts0 _ dx_ao5), va_AO.of (hts0 _ dx_ao2)⟩, fun t ht => va_Nw.of rfl (hts0 _ (dx_nw_in t ht))⟩
  match k, hk with
  | 0, hk => cases hk; exact ⟨a1, b1⟩
  | 1, hk => cases hk; exact ⟨a2, b2⟩
  | 2, hk => cases hk; exact ⟨a3, b3⟩
  | 3, hk => cases hk; exact ⟨a4, b4⟩
  | 4, hk => cases hk; exact ⟨a5, b5⟩
  | k + 5, hk => simp [dx_tys] at hk
theorem dx_cat {v : Value} (h : v.isRef = true) : v.category = 1 := by
  cases v <;> first | rfl | cases h
