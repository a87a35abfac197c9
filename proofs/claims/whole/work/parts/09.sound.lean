/-! ===== each instruction of the machine is the bytecode's ===== -/
def mx_cl (a : Nat) : vw_C := vwCl.getD a (RX0, TX0, 0)
theorem mx_cl_at {a : Nat} (h : a < 9) : vwCl[a]? = some (mx_cl a) := by
  rcases (show a = 0 ∨ a = 1 ∨ a = 2 ∨ a = 3 ∨ a = 4 ∨ a = 5 ∨ a = 6 ∨ a = 7 ∨ a = 8 by omega) with rfl | rfl | rfl | rfl | rfl | rfl | rfl | rfl | rfl <;> rfl
def mx_tyf (a k : Nat) : FieldType := (parseFieldDescriptor ((mx_cl a).2.1 k).2.2.1).getD .int
theorem mx_ty_ok : ∀ a, a < 9 → ∀ k, k < (mx_cl a).2.2 → parseFieldDescriptor ((mx_cl a).2.1 k).2.2.1 = some (mx_tyf a k) := by decide +kernel
theorem mx_nm_ok : ∀ a, a < 9 → ∀ j, j < (mx_cl a).2.2 → ∀ k, k < (mx_cl a).2.2 → j ≠ k → ((mx_cl a).2.1 j).2.1 ≠ ((mx_cl a).2.1 k).2.1 := by decide +kernel
theorem mx_uw : ∀ a, a < 9 → ∀ w ∈ u_ws (mx_cl a).1 (mx_cl a).2.1 (mx_cl a).2.2, w ∈ lw_gd := by decide +kernel
/-- the kind of a field is its type's -/
theorem mx_fk_0 : ∀ o, o < 55 → mx_cO o ≠ 0 → ∀ j, j < mx_nf o → mx_fk o j = 0 → mx_tyf (mx_cO o - 1) j = .int := by decide +kernel
theorem mx_fk_1 : ∀ o, o < 55 → mx_cO o ≠ 0 → ∀ j, j < mx_nf o → mx_fk o j = 1 → mx_tyf (mx_cO o - 1) j = .boolean := by decide +kernel
theorem mx_fk_3 : ∀ o, o < 55 → mx_cO o ≠ 0 → ∀ j, j < mx_nf o → mx_fk o j = 3 → mx_tyf (mx_cO o - 1) j = .object RX3 := by decide +kernel
theorem mx_fk_f : ∀ o, o < 55 → mx_cO o ≠ 0 → ∀ j, j < mx_nf o → mx_fk o j ≠ 2 → ((mx_cl (mx_cO o - 1)).2.1 j).2.2.2 = false := by decide +kernel
def mx_tys (g : mx_G) : List (ClassId × FieldType) := [(g.2.2.1 1, .int), (g.2.2.1 2, .byte), (g.2.2.1 3, .boolean), (g.2.2.1 4, .object RX5), (g.2.2.1 5, .object RX2)]
def mx_sPT : List Nat := [55, 73, 83, 91, 97, 103, 125, 127, 129]
def mx_sX (k : Nat) : String := (["rail", "room", "door", "one", "picture", "group", "first", "draw", "round"] : List String).getD k ""
theorem mx_sB_at : ∀ k, k < 9 → ∀ j, j < mx_sN k → (mx_sT.getD k []).getD j 0 = mx_sB k j := by decide +kernel
theorem mx_sN_at : ∀ k, k < 9 → mx_sNT.getD k 0 = mx_sN k := by decide +kernel
/-- what stands fast: the tables, the constants, the script -/
def mx_Fx (g : mx_G) (L : Nat) (xs : Nat → Int32) (U : State) : Prop :=
  va_K g.2.1 vwCl (mx_tys g) U ∧ vk_S 9 mx_sNT mx_sT (fun k => g.1 k mx_oS) (fun k => g.1 k mx_oB) (mx_A g) U U.heap ∧ (∀ k, k < 9 → vk_R RX4 (mx_nth mx_sPT k) (mx_sX k) (g.1 k mx_oS) U) ∧ va_Z "java/lang/String" "COMPACT_STRINGS" "Z" (.int 1) (mx_A g) U U.heap ∧ va_Z "jdk/internal/util/Preconditions" "SIOOBE_FORMATTER" "Ljava/util/function/BiFunction;" g.2.2.2 (mx_A g) U U.heap ∧ va_X (g.1 0 mx_oX) L xs U U.heap ∧ g.1 0 mx_oX < U.heap.size ∧ ¬ mx_A g (g.1 0 mx_oX) ∧ ∀ t ∈ mx_nwT, va_Nw (.methodLinkNest (mx_on t.1) t.2.1 (mx_mN t.2.2) "RailOfHeads") U
theorem mx_Fx.same {g : mx_G} {L : Nat} {xs : Nat → Int32} {u U : State} (hv : U.vm = u.vm) (hh : U.heap = u.heap) (h : mx_Fx g L xs u) : mx_Fx g L xs U := by
  obtain ⟨h1, h2, h3, h4, h5, h6, h7, h8, h9⟩ := h
  have ha : u.vm.Alike U.vm := by rw [hv]; exact Vm.Alike.refl u.vm
  refine ⟨h1.moved ha, ?_, fun k hk => (h3 k hk).same hv, ?_, ?_, ?_, by rw [hh]; exact h7, h8, fun t ht => (h9 t ht).same rfl hv.symm⟩
  · rw [hh]; exact h2.moved ha
  · rw [hh]; exact h4.moved ha
  · rw [hh]; exact h5.moved ha
  · rw [hh]; exact h6.moved ha
theorem mx_Fx.warm {g : mx_G} {L : Nat} {xs : Nat → Int32} {s U : State} {H : Heap} {locs : List Loc} (hW : s.WarmedH U.vm) (hh : U.heap = H) (hS : va_S (mx_A g) s.heap H locs) (h : mx_Fx g L xs s) : mx_Fx g L xs U := by
  obtain ⟨h1, h2, h3, h4, h5, h6, h7, h8, h9⟩ := h
  subst hh
  exact ⟨h1.moved hW.alike, (h2.kept hS.2.1).moved hW.alike, fun k hk => (h3 k hk).warm hW, (h4.kept hS.2.1).moved hW.alike, (h5.kept hS.2.1).moved hW.alike, (h6.kept (hS.2.1 _ h7 h8)).moved hW.alike, Nat.lt_of_lt_of_le h7 hS.1, h8, fun t ht => va_Nw.warmM hW (h9 t ht)⟩
def mx_sc (L : Nat) (xs : Nat → Int32) (σ : mx_S) : Prop := σ 0 mx_oX 0 = Int32.ofNat L ∧ ∀ j, j < L → σ 1 mx_oX j = xs j
def mx_Cx (p : Program) (R : Room) (s : State) (m : MethodId) (args : Array Value) (c : Code) (cells slots : Nat) (cc : ByteArray) (nL : Nat) (own : String) (g : mx_G) (L : Nat) (xs : Nat → Int32) (Y : Nat) : Prop :=
  p.tables.exec = Jvm.exec ∧ c.code = cc ∧ c.maxLocals = nL ∧ s.vm.findClass own = some m.cls ∧ (∀ w ∈ lw_gd, w.before args s = true) ∧ mx_Fx g L xs s ∧ mx_inj g ∧ g.2.2.2.category = 1 ∧ (cells ≤ R.cells ∧ slots ≤ R.slots) ∧ L < 2 ^ 31 ∧ (1 ≤ R.frames ∧ 100 ≤ R.locals) ∧ (∀ y', y' < Y → y' + 3 ≤ R.frames ∧ 8 + (mx_nl y' + 11) + 100 * (y' + 2) ≤ R.locals)
def mx_W (p : Program) (l : Launch) (e : Env) (R : Room) (s : State) (m : MethodId) (args : Array Value) (below : List Frame) (meth : Method) (c : Code) (cells slots : Nat) (Q : State → Prop) (nL : Nat) (g : mx_G) (L : Nat) (xs : Nat → Int32) (pc : Nat) (loc : mx_Loc) (stk : List mx_V) (σ : mx_S) : Prop :=
  ∀ (H : Heap) (ls : Array Slot) (locs : List Loc), va_P g.2.1 vwCl (mx_ws g σ) H → va_S (mx_A g) s.heap H locs → mx_lv g ls nL loc → (∀ v ∈ stk, mx_okV v) → (∀ i v, mx_lo loc i = some v → mx_okV v) → mx_sc L xs σ → W p l e R s m args below meth c H locs cells slots Q (F0 m pc ls (stk.map (mx_rv g)))
section Sd
variable {p : Program} {l : Launch} {e : Env} {R : Room} {s : State} {m : MethodId} {args : Array Value} {below : List Frame} {meth : Method} {c : Code} {cells slots : Nat} {Q : State → Prop} {cc : ByteArray} {nL : Nat} {own : String} {g : mx_G} {L : Nat} {xs : Nat → Int32} {pc npc a b x0 Y : Nat} {loc : mx_Loc} {stk r : List mx_V} {σ : mx_S} {x y im : Int32} {u w jm : Int64}
theorem sd_iload (C : mx_Cx p R s m args c cells slots cc nL own g L xs Y) (hd : decode cc pc = .ok (.iload a, 2) ∧ npc = pc + 2 ∨ a < 4 ∧ decode cc pc = .ok (.iload_n (Fin.ofNat 4 a), 1) ∧ npc = pc + 1) (hl : mx_lo loc a = some (Sum.inl x)) (k : mx_W p l e R s m args below meth c cells slots Q nL g L xs npc loc (Sum.inl x :: stk) σ) : mx_W p l e R s m args below meth c cells slots Q nL g L xs pc loc stk σ := by
  obtain ⟨hx, hb, -⟩ := C
  intro H ls locs hP hS hv hs hlo hc
  have hl' : ls[a]? = some (.val (.int x)) := hv.2.2 a _ hl
  have kk := k H ls locs hP hS hv (List.forall_mem_cons.mpr ⟨trivial, hs⟩) hlo hc
  rcases hd with ⟨hd, rfl⟩ | ⟨ha, hd, rfl⟩
  · exact lv_iload hx hb hd hl' kk
  · exact lv_iload_n hx hb hd (by simp [Fin.ofNat]; omega) hl' kk
theorem sd_lload (C : mx_Cx p R s m args c cells slots cc nL own g L xs Y) (hd : decode cc pc = .ok (.lload a, 2) ∧ npc = pc + 2 ∨ a < 4 ∧ decode cc pc = .ok (.lload_n (Fin.ofNat 4 a), 1) ∧ npc = pc + 1) (hl : mx_lo loc a = some (Sum.inr (Sum.inl u))) (k : mx_W p l e R s m args below meth c cells slots Q nL g L xs npc loc (Sum.inr (Sum.inl u) :: stk) σ) : mx_W p l e R s m args below meth c cells slots Q nL g L xs pc loc stk σ := by
  obtain ⟨hx, hb, -⟩ := C
  intro H ls locs hP hS hv hs hlo hc
  have hl' : ls[a]? = some (.val (.long u)) := hv.2.2 a _ hl
  have kk := k H ls locs hP hS hv (List.forall_mem_cons.mpr ⟨trivial, hs⟩) hlo hc
  rcases hd with ⟨hd, rfl⟩ | ⟨ha, hd, rfl⟩
  · exact lv_lload hx hb hd hl' kk
  · exact lv_lload_n hx hb hd (by simp [Fin.ofNat]; omega) hl' kk
theorem sd_aload (C : mx_Cx p R s m args c cells slots cc nL own g L xs Y) {q : Nat × Nat} (hd : decode cc pc = .ok (.aload a, 2) ∧ npc = pc + 2 ∨ a < 4 ∧ decode cc pc = .ok (.aload_n (Fin.ofNat 4 a), 1) ∧ npc = pc + 1) (hq : q.2 ≠ mx_oQ) (hl : mx_lo loc a = some (Sum.inr (Sum.inr q))) (k : mx_W p l e R s m args below meth c cells slots Q nL g L xs npc loc (Sum.inr (Sum.inr q) :: stk) σ) : mx_W p l e R s m args below meth c cells slots Q nL g L xs pc loc stk σ := by
  obtain ⟨hx, hb, -⟩ := C
  intro H ls locs hP hS hv hs hlo hc
  have e0 : mx_rv g (Sum.inr (Sum.inr q)) = .ref (g.1 q.1 q.2) := if_neg hq
  have hl' : ls[a]? = some (.val (.ref (g.1 q.1 q.2))) := by rw [← e0]; exact hv.2.2 a _ hl
  have kk := k H ls locs hP hS hv (List.forall_mem_cons.mpr ⟨hlo a _ hl, hs⟩) hlo hc
  rw [List.map_cons, e0] at kk
  rcases hd with ⟨hd, rfl⟩ | ⟨ha, hd, rfl⟩
  · exact lv_aload hx hb hd hl' kk
  · exact lv_aload_n hx hb hd (by simp [Fin.ofNat]; omega) hl' kk
theorem mx_ok_st1 {v : mx_V} (hlo : ∀ i v, mx_lo loc i = some v → mx_okV v) (hv : mx_okV v) : ∀ i w, mx_lo (mx_st1 loc a v) i = some w → mx_okV w := by
  intro i w h
  rcases mx_lo_st1 h with ⟨-, rfl⟩ | ⟨-, h, -⟩
  · exact hv
  · exact hlo i w h
theorem sd_istore (C : mx_Cx p R s m args c cells slots cc nL own g L xs Y) (ha : a < nL) (hd : decode cc pc = .ok (.istore a, 2) ∧ npc = pc + 2 ∨ a < 4 ∧ decode cc pc = .ok (.istore_n (Fin.ofNat 4 a), 1) ∧ npc = pc + 1) (k : mx_W p l e R s m args below meth c cells slots Q nL g L xs npc (mx_st1 loc a (Sum.inl x)) r σ) : mx_W p l e R s m args below meth c cells slots Q nL g L xs pc loc (Sum.inl x :: r) σ := by
  obtain ⟨hx, hb, -, -, -, -, -, hq, -⟩ := C
  intro H ls locs hP hS hv hs hlo hc
  obtain ⟨-, hs⟩ := List.forall_mem_cons.mp hs
  rcases hd with ⟨hd, rfl⟩ | ⟨ha4, hd, rfl⟩
  · exact lv_istore hx hb hd hv.has ha rfl (fun ls' h' => k H ls' locs hP hS (mx_lv.st1 (v := Sum.inl x) hq h') hs (mx_ok_st1 hlo trivial) hc)
  · exact lv_istore_n hx hb hd (by simp [Fin.ofNat]; omega) hv.has ha rfl (fun ls' h' => k H ls' locs hP hS (mx_lv.st1 (v := Sum.inl x) hq h') hs (mx_ok_st1 hlo trivial) hc)
theorem sd_astore (C : mx_Cx p R s m args c cells slots cc nL own g L xs Y) {q : Nat × Nat} (ha : a < nL) (hd : decode cc pc = .ok (.astore a, 2) ∧ npc = pc + 2 ∨ a < 4 ∧ decode cc pc = .ok (.astore_n (Fin.ofNat 4 a), 1) ∧ npc = pc + 1) (hq0 : q.2 ≠ mx_oQ) (k : mx_W p l e R s m args below meth c cells slots Q nL g L xs npc (mx_st1 loc a (Sum.inr (Sum.inr q))) r σ) : mx_W p l e R s m args below meth c cells slots Q nL g L xs pc loc (Sum.inr (Sum.inr q) :: r) σ := by
  obtain ⟨hx, hb, -, -, -, -, -, hq, -⟩ := C
  intro H ls locs hP hS hv hs hlo hc
  obtain ⟨h0, hs⟩ := List.forall_mem_cons.mp hs
  have e0 : mx_rv g (Sum.inr (Sum.inr q)) = .ref (g.1 q.1 q.2) := if_neg hq0
  rw [List.map_cons, e0]
  rcases hd with ⟨hd, rfl⟩ | ⟨ha4, hd, rfl⟩
  · exact lv_astore hx hb hd hv.has ha rfl (fun ls' h' => k H ls' locs hP hS (mx_lv.st1 (v := Sum.inr (Sum.inr q)) hq (by rw [e0]; exact h')) hs (mx_ok_st1 hlo h0) hc)
  · exact lv_astore_n hx hb hd (by simp [Fin.ofNat]; omega) hv.has ha rfl (fun ls' h' => k H ls' locs hP hS (mx_lv.st1 (v := Sum.inr (Sum.inr q)) hq (by rw [e0]; exact h')) hs (mx_ok_st1 hlo h0) hc)
theorem sd_lstore (C : mx_Cx p R s m args c cells slots cc nL own g L xs Y) (ha : a + 1 < nL) (hd : decode cc pc = .ok (.lstore a, 2) ∧ npc = pc + 2 ∨ a < 4 ∧ decode cc pc = .ok (.lstore_n (Fin.ofNat 4 a), 1) ∧ npc = pc + 1) (k : mx_W p l e R s m args below meth c cells slots Q nL g L xs npc ((mx_st1 loc a (Sum.inr (Sum.inl u))).set (a + 1) none) r σ) : mx_W p l e R s m args below meth c cells slots Q nL g L xs pc loc (Sum.inr (Sum.inl u) :: r) σ := by
  obtain ⟨hx, hb, -, -, -, -, -, hq, -⟩ := C
  intro H ls locs hP hS hv hs hlo hc
  obtain ⟨-, hs⟩ := List.forall_mem_cons.mp hs
  have ho : ∀ i w, mx_lo ((mx_st1 loc a (Sum.inr (Sum.inl u))).set (a + 1) none) i = some w → mx_okV w := by
    intro i w h
    rcases mx_lo_set _ _ _ _ _ h with ⟨-, h⟩ | ⟨-, h⟩
    · cases h
    · exact mx_ok_st1 (v := Sum.inr (Sum.inl u)) hlo trivial i w h
  rcases hd with ⟨hd, rfl⟩ | ⟨ha4, hd, rfl⟩
  · exact lv_lstore hx hb hd hv.has ha rfl (fun ls' h' => k H ls' locs hP hS (mx_lv.st2 (v := Sum.inr (Sum.inl u)) hq h') hs ho hc)
  · exact lv_lstore_n hx hb hd (by simp [Fin.ofNat]; omega) hv.has ha rfl (fun ls' h' => k H ls' locs hP hS (mx_lv.st2 (v := Sum.inr (Sum.inl u)) hq h') hs ho hc)
theorem sd_const (C : mx_Cx p R s m args c cells slots cc nL own g L xs Y) (hd : (decode cc pc = .ok (.iconst im.toInt, 1) ∧ npc = pc + 1) ∨ (decode cc pc = .ok (.bipush im.toInt, 2) ∧ (Int8.ofInt im.toInt).toInt32 = im ∧ npc = pc + 2) ∨ (decode cc pc = .ok (.sipush im.toInt, 3) ∧ (Int16.ofInt im.toInt).toInt32 = im ∧ npc = pc + 3) ∨ (decode cc pc = .ok (.ldc x0, 2) ∧ Cond.constant own x0 im ∈ lw_gd ∧ npc = pc + 2) ∨ (decode cc pc = .ok (.ldc_w x0, 3) ∧ Cond.constant own x0 im ∈ lw_gd ∧ npc = pc + 3)) (k : mx_W p l e R s m args below meth c cells slots Q nL g L xs npc loc (Sum.inl im :: stk) σ) : mx_W p l e R s m args below meth c cells slots Q nL g L xs pc loc stk σ := by
  obtain ⟨hx, hb, -, hown, hts, -⟩ := C
  intro H ls locs hP hS hv hs hlo hc
  have kk := k H ls locs hP hS hv (List.forall_mem_cons.mpr ⟨trivial, hs⟩) hlo hc
  rcases hd with ⟨hd, rfl⟩ | ⟨hd, h1, rfl⟩ | ⟨hd, h1, rfl⟩ | ⟨hd, h1, rfl⟩ | ⟨hd, h1, rfl⟩
  · exact lv_iconst hx hb hd (by simp) kk
  · exact lv_bipush hx hb hd h1 kk
  · exact lv_sipush hx hb hd h1 kk
  · exact lv_ldc hx hb hown (hts _ h1) hd kk
  · exact lv_ldcw hx hb hown (hts _ h1) hd kk
theorem sd_lconst (C : mx_Cx p R s m args c cells slots cc nL own g L xs Y) (hd : (decode cc pc = .ok (.lconst (Fin.ofNat 2 a), 1) ∧ Int64.ofNat (Fin.ofNat 2 a : Fin 2).val = jm ∧ npc = pc + 1) ∨ (decode cc pc = .ok (.ldc2_w x0, 3) ∧ Cond.constantLong own x0 jm ∈ lw_gd ∧ npc = pc + 3)) (k : mx_W p l e R s m args below meth c cells slots Q nL g L xs npc loc (Sum.inr (Sum.inl jm) :: stk) σ) : mx_W p l e R s m args below meth c cells slots Q nL g L xs pc loc stk σ := by
  obtain ⟨hx, hb, -, hown, hts, -⟩ := C
  intro H ls locs hP hS hv hs hlo hc
  have kk := k H ls locs hP hS hv (List.forall_mem_cons.mpr ⟨trivial, hs⟩) hlo hc
  rcases hd with ⟨hd, h1, rfl⟩ | ⟨hd, h1, rfl⟩
  · exact lv_lconst hx hb hd h1 kk
  · exact lv_ldc2 hx hb hown (hts _ h1) hd kk
def mx_binI (b : Nat) : Instr := match b with
  | 0 => .iadd
  | 1 => .isub
  | 2 => .imul
  | 3 => .iand
  | 4 => .ior
  | 5 => .ishl
  | 6 => .ishr
  | _ => .iushr
/-- a goal out of what 'mx_step' has made of it -/
theorem sd_bin (C : mx_Cx p R s m args c cells slots cc nL own g L xs Y) (hd : decode cc pc = .ok (mx_binI b, 1)) (kk : mx_bin b x y (fun z => mx_W p l e R s m args below meth c cells slots Q nL g L xs (pc + 1) loc (Sum.inl z :: r) σ)) : mx_W p l e R s m args below meth c cells slots Q nL g L xs pc loc (Sum.inl y :: Sum.inl x :: r) σ := by
  obtain ⟨hx, hb, -⟩ := C
  intro H ls locs hP hS hv hs hlo hc
  obtain ⟨-, hs⟩ := List.forall_mem_cons.mp hs
  obtain ⟨-, hs⟩ := List.forall_mem_cons.mp hs
  have hk : ∀ z, mx_W p l e R s m args below meth c cells slots Q nL g L xs (pc + 1) loc (Sum.inl z :: r) σ → W p l e R s m args below meth c H locs cells slots Q (F0 m (pc + 1) ls (.int z :: r.map (mx_rv g))) := fun z q => q H ls locs hP hS hv (List.forall_mem_cons.mpr ⟨trivial, hs⟩) hlo hc
  unfold mx_bin at kk
  unfold mx_binI at hd
  split at kk
  · exact lv_iadd hx hb hd (hk _ kk)
  · exact lv_isub hx hb hd (hk _ kk)
  · exact lv_imul hx hb hd (hk _ kk)
  · exact lv_iand hx hb hd (hk _ kk)
  · exact lv_ior hx hb hd (hk _ kk)
  · exact lv_ishl hx hb hd (hk _ kk)
  · exact lv_ishr hx hb hd (hk _ kk)
  · rename_i n0 n1 n2 n3 n4 n5 n6
    have hd : decode cc pc = .ok (.iushr, 1) := by
      split at hd
      · exact absurd rfl n0
      · exact absurd rfl n1
      · exact absurd rfl n2
      · exact absurd rfl n3
      · exact absurd rfl n4
      · exact absurd rfl n5
      · exact absurd rfl n6
      · exact hd
    exact lv_iushr hx hb hd rfl (hk _ kk)
def mx_divI (b : Nat) : Instr := match b with
  | 0 => .idiv
  | _ => .irem
theorem sd_div (C : mx_Cx p R s m args c cells slots cc nL own g L xs Y) (hd : decode cc pc = .ok (mx_divI b, 1)) (kk : mx_d False y (mx_div b x y (fun z => mx_W p l e R s m args below meth c cells slots Q nL g L xs (pc + 1) loc (Sum.inl z :: r) σ))) : mx_W p l e R s m args below meth c cells slots Q nL g L xs pc loc (Sum.inl y :: Sum.inl x :: r) σ := by
  obtain ⟨hx, hb, -⟩ := C
  intro H ls locs hP hS hv hs hlo hc
  obtain ⟨-, hs⟩ := List.forall_mem_cons.mp hs
  obtain ⟨-, hs⟩ := List.forall_mem_cons.mp hs
  have hk : ∀ z, mx_W p l e R s m args below meth c cells slots Q nL g L xs (pc + 1) loc (Sum.inl z :: r) σ → W p l e R s m args below meth c H locs cells slots Q (F0 m (pc + 1) ls (.int z :: r.map (mx_rv g))) := fun z q => q H ls locs hP hS hv (List.forall_mem_cons.mpr ⟨trivial, hs⟩) hlo hc
  unfold mx_d at kk
  split at kk
  · exact kk.elim
  · rename_i hne
    unfold mx_div at kk
    unfold mx_divI at hd
    split at kk
    · exact lv_idiv hx hb hd hne (hk _ kk)
    · rename_i n0
      have hd : decode cc pc = .ok (.irem, 1) := by
        split at hd
        · exact absurd rfl n0
        · exact hd
      exact lv_irem hx hb hd hne (hk _ kk)
def mx_unI (b : Nat) : Instr := match b with
  | 0 => .ineg
  | 1 => .i2b
  | 2 => .i2s
  | _ => .i2c
theorem sd_un (C : mx_Cx p R s m args c cells slots cc nL own g L xs Y) (hd : decode cc pc = .ok (mx_unI b, 1)) (kk : mx_un b x (fun z => mx_W p l e R s m args below meth c cells slots Q nL g L xs (pc + 1) loc (Sum.inl z :: r) σ)) : mx_W p l e R s m args below meth c cells slots Q nL g L xs pc loc (Sum.inl x :: r) σ := by
  obtain ⟨hx, hb, -⟩ := C
  intro H ls locs hP hS hv hs hlo hc
  obtain ⟨-, hs⟩ := List.forall_mem_cons.mp hs
  have hk : ∀ z, mx_W p l e R s m args below meth c cells slots Q nL g L xs (pc + 1) loc (Sum.inl z :: r) σ → W p l e R s m args below meth c H locs cells slots Q (F0 m (pc + 1) ls (.int z :: r.map (mx_rv g))) := fun z q => q H ls locs hP hS hv (List.forall_mem_cons.mpr ⟨trivial, hs⟩) hlo hc
  unfold mx_un at kk
  unfold mx_unI at hd
  split at kk
  · exact lv_ineg hx hb hd (hk _ kk)
  · exact lv_i2b hx hb hd rfl (hk _ kk)
  · exact lv_i2s hx hb hd rfl (hk _ kk)
  · rename_i n0 n1 n2
    have hd : decode cc pc = .ok (.i2c, 1) := by
      split at hd
      · exact absurd rfl n0
      · exact absurd rfl n1
      · exact absurd rfl n2
      · exact hd
    exact lv_i2c hx hb hd rfl (hk _ kk)
def mx_lbI (b : Nat) : Instr := match b with
  | 0 => .ladd
  | 1 => .land
  | _ => .lor
theorem sd_lb (C : mx_Cx p R s m args c cells slots cc nL own g L xs Y) (hd : decode cc pc = .ok (mx_lbI b, 1)) (kk : mx_lb b u w (fun z => mx_W p l e R s m args below meth c cells slots Q nL g L xs (pc + 1) loc (Sum.inr (Sum.inl z) :: r) σ)) : mx_W p l e R s m args below meth c cells slots Q nL g L xs pc loc (Sum.inr (Sum.inl w) :: Sum.inr (Sum.inl u) :: r) σ := by
  obtain ⟨hx, hb, -⟩ := C
  intro H ls locs hP hS hv hs hlo hc
  obtain ⟨-, hs⟩ := List.forall_mem_cons.mp hs
  obtain ⟨-, hs⟩ := List.forall_mem_cons.mp hs
  have hk : ∀ z, mx_W p l e R s m args below meth c cells slots Q nL g L xs (pc + 1) loc (Sum.inr (Sum.inl z) :: r) σ → W p l e R s m args below meth c H locs cells slots Q (F0 m (pc + 1) ls (.long z :: r.map (mx_rv g))) := fun z q => q H ls locs hP hS hv (List.forall_mem_cons.mpr ⟨trivial, hs⟩) hlo hc
  unfold mx_lb at kk
  unfold mx_lbI at hd
  split at kk
  · exact lv_ladd hx hb hd (hk _ kk)
  · exact lv_land hx hb hd (hk _ kk)
  · rename_i n0 n1
    have hd : decode cc pc = .ok (.lor, 1) := by
      split at hd
      · exact absurd rfl n0
      · exact absurd rfl n1
      · exact hd
    exact lv_lor hx hb hd (hk _ kk)
def mx_lshI (b : Nat) : Instr := match b with
  | 0 => .lshl
  | _ => .lshr
theorem sd_lsh (C : mx_Cx p R s m args c cells slots cc nL own g L xs Y) (hd : decode cc pc = .ok (mx_lshI b, 1)) (kk : mx_lsh b u y (fun z => mx_W p l e R s m args below meth c cells slots Q nL g L xs (pc + 1) loc (Sum.inr (Sum.inl z) :: r) σ)) : mx_W p l e R s m args below meth c cells slots Q nL g L xs pc loc (Sum.inl y :: Sum.inr (Sum.inl u) :: r) σ := by
  obtain ⟨hx, hb, -⟩ := C
  intro H ls locs hP hS hv hs hlo hc
  obtain ⟨-, hs⟩ := List.forall_mem_cons.mp hs
  obtain ⟨-, hs⟩ := List.forall_mem_cons.mp hs
  have hk : ∀ z, mx_W p l e R s m args below meth c cells slots Q nL g L xs (pc + 1) loc (Sum.inr (Sum.inl z) :: r) σ → W p l e R s m args below meth c H locs cells slots Q (F0 m (pc + 1) ls (.long z :: r.map (mx_rv g))) := fun z q => q H ls locs hP hS hv (List.forall_mem_cons.mpr ⟨trivial, hs⟩) hlo hc
  unfold mx_lsh at kk
  unfold mx_lshI at hd
  split at kk
  · exact lv_lshl hx hb hd rfl (hk _ kk)
  · rename_i n0
    have hd : decode cc pc = .ok (.lshr, 1) := by
      split at hd
      · exact absurd rfl n0
      · exact hd
    exact lv_lshr hx hb hd rfl (hk _ kk)
theorem sd_lcmp (C : mx_Cx p R s m args c cells slots cc nL own g L xs Y) (hd : decode cc pc = .ok (.lcmp, 1)) (kk : mx_W p l e R s m args below meth c cells slots Q nL g L xs (pc + 1) loc (Sum.inl (lg_cmp u w) :: r) σ) : mx_W p l e R s m args below meth c cells slots Q nL g L xs pc loc (Sum.inr (Sum.inl w) :: Sum.inr (Sum.inl u) :: r) σ := by
  obtain ⟨hx, hb, -⟩ := C
  intro H ls locs hP hS hv hs hlo hc
  obtain ⟨-, hs⟩ := List.forall_mem_cons.mp hs
  obtain ⟨-, hs⟩ := List.forall_mem_cons.mp hs
  exact W.lcmp hx hb hd (kk H ls locs hP hS hv (List.forall_mem_cons.mpr ⟨trivial, hs⟩) hlo hc)
theorem sd_i2l (C : mx_Cx p R s m args c cells slots cc nL own g L xs Y) (hd : decode cc pc = .ok (.i2l, 1)) (kk : mx_W p l e R s m args below meth c cells slots Q nL g L xs (pc + 1) loc (Sum.inr (Sum.inl x.toInt64) :: r) σ) : mx_W p l e R s m args below meth c cells slots Q nL g L xs pc loc (Sum.inl x :: r) σ := by
  obtain ⟨hx, hb, -⟩ := C
  intro H ls locs hP hS hv hs hlo hc
  obtain ⟨-, hs⟩ := List.forall_mem_cons.mp hs
  exact lv_i2l hx hb hd rfl (kk H ls locs hP hS hv (List.forall_mem_cons.mpr ⟨trivial, hs⟩) hlo hc)
theorem sd_l2i (C : mx_Cx p R s m args c cells slots cc nL own g L xs Y) (hd : decode cc pc = .ok (.l2i, 1)) (kk : mx_W p l e R s m args below meth c cells slots Q nL g L xs (pc + 1) loc (Sum.inl u.toInt32 :: r) σ) : mx_W p l e R s m args below meth c cells slots Q nL g L xs pc loc (Sum.inr (Sum.inl u) :: r) σ := by
  obtain ⟨hx, hb, -⟩ := C
  intro H ls locs hP hS hv hs hlo hc
  obtain ⟨-, hs⟩ := List.forall_mem_cons.mp hs
  exact lv_l2i hx hb hd rfl (kk H ls locs hP hS hv (List.forall_mem_cons.mpr ⟨trivial, hs⟩) hlo hc)
theorem sd_iinc (C : mx_Cx p R s m args c cells slots cc nL own g L xs Y) (ha : a < nL) (hd : decode cc pc = .ok (.iinc a im.toInt, 3)) (hl : mx_lo loc a = some (Sum.inl x)) (kk : mx_W p l e R s m args below meth c cells slots Q nL g L xs (pc + 3) (mx_st1 loc a (Sum.inl (x + im))) stk σ) : mx_W p l e R s m args below meth c cells slots Q nL g L xs pc loc stk σ := by
  obtain ⟨hx, hb, -, -, -, -, -, hq, -⟩ := C
  intro H ls locs hP hS hv hs hlo hc
  obtain ⟨k, hk⟩ := List.getElem?_of_mem (mx_al_mem (g := g) hl)
  exact lv_iinc (x := x) (v := x + im) hx hb hd hv.has hk (by simp) ha rfl (fun ls' h' => kk H ls' locs hP hS (mx_lv.st1 (v := Sum.inl (x + im)) hq h') hs (mx_ok_st1 hlo trivial) hc)
theorem mx_cat1 {v : mx_V} (hq : g.2.2.2.category = 1) (h : ¬ mx_lg v) : (mx_rv g v).category = 1 := by
  rcases v with x | x | x
  · rfl
  · exact absurd trivial h
  · show (if x.2 = mx_oQ then g.2.2.2 else Value.ref (g.1 x.1 x.2)).category = 1
    split
    · exact hq
    · rfl
theorem sd_dup (C : mx_Cx p R s m args c cells slots cc nL own g L xs Y) {v : mx_V} (hv1 : ¬ mx_lg v) (hd : decode cc pc = .ok (.dup, 1)) (kk : mx_W p l e R s m args below meth c cells slots Q nL g L xs (pc + 1) loc (v :: v :: r) σ) : mx_W p l e R s m args below meth c cells slots Q nL g L xs pc loc (v :: r) σ := by
  obtain ⟨hx, hb, -, -, -, -, -, hq, -⟩ := C
  intro H ls locs hP hS hv hs hlo hc
  have h0 := (List.forall_mem_cons.mp hs).1
  exact lv_dup hx hb hd (mx_cat1 hq hv1) (kk H ls locs hP hS hv (List.forall_mem_cons.mpr ⟨h0, hs⟩) hlo hc)
theorem sd_dup2 (C : mx_Cx p R s m args c cells slots cc nL own g L xs Y) {v v' : mx_V} (hv1 : ¬ mx_lg v) (hv2 : ¬ mx_lg v') (hd : decode cc pc = .ok (.dup2, 1)) (kk : mx_W p l e R s m args below meth c cells slots Q nL g L xs (pc + 1) loc (v :: v' :: v :: v' :: r) σ) : mx_W p l e R s m args below meth c cells slots Q nL g L xs pc loc (v :: v' :: r) σ := by
  obtain ⟨hx, hb, -, -, -, -, -, hq, -⟩ := C
  intro H ls locs hP hS hv hs hlo hc
  have h0 := (List.forall_mem_cons.mp hs).1
  have h1 := (List.forall_mem_cons.mp (List.forall_mem_cons.mp hs).2).1
  exact lv_dup2_11 hx hb hd (mx_cat1 hq hv1) (mx_cat1 hq hv2) (kk H ls locs hP hS hv (List.forall_mem_cons.mpr ⟨h0, List.forall_mem_cons.mpr ⟨h1, hs⟩⟩) hlo hc)
theorem sd_pop (C : mx_Cx p R s m args c cells slots cc nL own g L xs Y) (hd : decode cc pc = .ok (.pop, 1)) (kk : mx_W p l e R s m args below meth c cells slots Q nL g L xs (pc + 1) loc r σ) : mx_W p l e R s m args below meth c cells slots Q nL g L xs pc loc (Sum.inl x :: r) σ := by
  obtain ⟨hx, hb, -⟩ := C
  intro H ls locs hP hS hv hs hlo hc
  exact lv_pop hx hb hd rfl (kk H ls locs hP hS hv (List.forall_mem_cons.mp hs).2 hlo hc)
def mx_cn (b : Nat) : ClassFile.Cond := match b with
  | 0 => .eq
  | 1 => .ne
  | 2 => .lt
  | 3 => .ge
  | 4 => .gt
  | _ => .le
theorem sd_ifc (C : mx_Cx p R s m args c cells slots cc nL own g L xs Y) {tgt : Nat} (hd : decode cc pc = .ok (.ifCond (mx_cn b) ((tgt : Int) - pc), 3)) (kk : mx_if b x 0 (mx_W p l e R s m args below meth c cells slots Q nL g L xs tgt loc r σ) (mx_W p l e R s m args below meth c cells slots Q nL g L xs (pc + 3) loc r σ)) : mx_W p l e R s m args below meth c cells slots Q nL g L xs pc loc (Sum.inl x :: r) σ := by
  obtain ⟨hx, hb, -⟩ := C
  intro H ls locs hP hS hv hs hlo hc
  obtain ⟨-, hs⟩ := List.forall_mem_cons.mp hs
  have ht : (pc : Int) + ((tgt : Int) - pc) = (tgt : Int) := by omega
  have h1 : mx_W p l e R s m args below meth c cells slots Q nL g L xs tgt loc r σ → _ := fun q => q H ls locs hP hS hv hs hlo hc
  have h2 : mx_W p l e R s m args below meth c cells slots Q nL g L xs (pc + 3) loc r σ → _ := fun q => q H ls locs hP hS hv hs hlo hc
  unfold mx_if at kk
  unfold mx_cn at hd
  split at kk
  · exact lv_if_eq hx hb hd ht (fun q => h1 (by rw [if_pos q] at kk; exact kk)) (fun q => h2 (by rw [if_neg q] at kk; exact kk))
  · exact lv_if_ne hx hb hd ht (fun q => h1 (by rw [if_neg q] at kk; exact kk)) (fun q => h2 (by rw [if_pos q] at kk; exact kk))
  · exact lv_if_lt hx hb hd ht (fun q => h1 (by rw [if_pos q] at kk; exact kk)) (fun q => h2 (by rw [if_neg q] at kk; exact kk))
  · exact lv_if_ge hx hb hd ht (fun q => h1 (by rw [if_pos q] at kk; exact kk)) (fun q => h2 (by rw [if_neg q] at kk; exact kk))
  · exact lv_if_gt hx hb hd ht (fun q => h1 (by rw [if_pos q] at kk; exact kk)) (fun q => h2 (by rw [if_neg q] at kk; exact kk))
  · rename_i n0 n1 n2 n3 n4
    have hd : decode cc pc = .ok (.ifCond .le ((tgt : Int) - pc), 3) := by
      split at hd
      · exact absurd rfl n0
      · exact absurd rfl n1
      · exact absurd rfl n2
      · exact absurd rfl n3
      · exact absurd rfl n4
      · exact hd
    exact lv_if_le hx hb hd ht (fun q => h1 (by rw [if_pos q] at kk; exact kk)) (fun q => h2 (by rw [if_neg q] at kk; exact kk))
theorem sd_icmp (C : mx_Cx p R s m args c cells slots cc nL own g L xs Y) {tgt : Nat} (hd : decode cc pc = .ok (.if_icmp (mx_cn b) ((tgt : Int) - pc), 3)) (kk : mx_if b x y (mx_W p l e R s m args below meth c cells slots Q nL g L xs tgt loc r σ) (mx_W p l e R s m args below meth c cells slots Q nL g L xs (pc + 3) loc r σ)) : mx_W p l e R s m args below meth c cells slots Q nL g L xs pc loc (Sum.inl y :: Sum.inl x :: r) σ := by
  obtain ⟨hx, hb, -⟩ := C
  intro H ls locs hP hS hv hs hlo hc
  obtain ⟨-, hs⟩ := List.forall_mem_cons.mp hs
  obtain ⟨-, hs⟩ := List.forall_mem_cons.mp hs
  have ht : (pc : Int) + ((tgt : Int) - pc) = (tgt : Int) := by omega
  have h1 : mx_W p l e R s m args below meth c cells slots Q nL g L xs tgt loc r σ → _ := fun q => q H ls locs hP hS hv hs hlo hc
  have h2 : mx_W p l e R s m args below meth c cells slots Q nL g L xs (pc + 3) loc r σ → _ := fun q => q H ls locs hP hS hv hs hlo hc
  unfold mx_if at kk
  unfold mx_cn at hd
  split at kk
  · exact lv_icmp_eq hx hb hd ht (fun q => h1 (by rw [if_pos q] at kk; exact kk)) (fun q => h2 (by rw [if_neg q] at kk; exact kk))
  · exact lv_icmp_ne hx hb hd ht (fun q => h1 (by rw [if_neg q] at kk; exact kk)) (fun q => h2 (by rw [if_pos q] at kk; exact kk))
  · exact lv_icmp_lt hx hb hd ht (fun q => h1 (by rw [if_pos q] at kk; exact kk)) (fun q => h2 (by rw [if_neg q] at kk; exact kk))
  · exact lv_icmp_ge hx hb hd ht (fun q => h1 (by rw [if_pos q] at kk; exact kk)) (fun q => h2 (by rw [if_neg q] at kk; exact kk))
  · exact lv_icmp_gt hx hb hd ht (fun q => h1 (by rw [if_pos q] at kk; exact kk)) (fun q => h2 (by rw [if_neg q] at kk; exact kk))
  · rename_i n0 n1 n2 n3 n4
    have hd : decode cc pc = .ok (.if_icmp .le ((tgt : Int) - pc), 3) := by
      split at hd
      · exact absurd rfl n0
      · exact absurd rfl n1
      · exact absurd rfl n2
      · exact absurd rfl n3
      · exact absurd rfl n4
      · exact hd
    exact lv_icmp_le hx hb hd ht (fun q => h1 (by rw [if_pos q] at kk; exact kk)) (fun q => h2 (by rw [if_neg q] at kk; exact kk))
theorem sd_goto (C : mx_Cx p R s m args c cells slots cc nL own g L xs Y) {tgt : Nat} (hd : decode cc pc = .ok (.goto ((tgt : Int) - pc), 3)) (kk : mx_W p l e R s m args below meth c cells slots Q nL g L xs tgt loc stk σ) : mx_W p l e R s m args below meth c cells slots Q nL g L xs pc loc stk σ := by
  obtain ⟨hx, hb, -⟩ := C
  intro H ls locs hP hS hv hs hlo hc
  exact lv_goto hx hb hd (by omega) (kk H ls locs hP hS hv hs hlo hc)
theorem mx_sw_spec (x : Int32) (d : Nat) : ∀ (ts : List Nat) (b : Nat), (∃ i t, ts[i]? = some t ∧ x = Int32.ofNat (b + i) ∧ mx_sw x d b ts = t) ∨ ((∀ i, i < ts.length → x ≠ Int32.ofNat (b + i)) ∧ mx_sw x d b ts = d)
  | [], b => Or.inr ⟨fun i h => absurd h (Nat.not_lt_zero i), rfl⟩
  | t :: ts, b => by
    by_cases h : x = Int32.ofNat b
    · exact Or.inl ⟨0, t, rfl, h, if_pos h⟩
    · have e : mx_sw x d b (t :: ts) = mx_sw x d (b + 1) ts := if_neg h
      rw [e]
      rcases mx_sw_spec x d ts (b + 1) with ⟨i, t', h1, h2, h3⟩ | ⟨h1, h2⟩
      · exact Or.inl ⟨i + 1, t', by rw [List.getElem?_cons_succ]; exact h1, by rw [h2]; congr 1; omega, h3⟩
      · refine Or.inr ⟨fun i hi => ?_, h2⟩
        cases i with
        | zero => exact h
        | succ i =>
          have := h1 i (by simpa using hi)
          intro q
          exact this (by rw [q]; congr 1; omega)
theorem sd_sw (C : mx_Cx p R s m args c cells slots cc nL own g L xs Y) {len : Nat} {ts : List Nat} {tg : Nat → Nat} (hd : decode cc pc = .ok (.tableswitch ((tg a : Int) - pc) (b : Int) (((b + ts.length : Nat) : Int) - 1) (ts.map (fun t => (tg t : Int) - pc)).toArray, len)) (hb0 : b + ts.length < 2 ^ 31) (kk : mx_W p l e R s m args below meth c cells slots Q nL g L xs (tg (mx_sw x a b ts)) loc r σ) : mx_W p l e R s m args below meth c cells slots Q nL g L xs pc loc (Sum.inl x :: r) σ := by
  obtain ⟨hx, hb, -⟩ := C
  intro H ls locs hP hS hv hs hlo hc
  obtain ⟨-, hs⟩ := List.forall_mem_cons.mp hs
  have k1 := kk H ls locs hP hS hv hs hlo hc
  rcases mx_sw_spec x a ts b with ⟨i, t, h1, h2, h3⟩ | ⟨h1, h2⟩
  · rw [h3] at k1
    have hi : i < ts.length := (List.getElem?_eq_some_iff.mp h1).1
    have ex : x.toInt = ((b + i : Nat) : Int) := by rw [h2]; exact nI_toInt (by omega)
    refine lv_tableIn (off := (tg t : Int) - pc) (tgt := tg t) hx hb hd (by omega) (by omega) ?_ (by omega) k1
    have e1 : (x.toInt - (b : Int)).toNat = i := by omega
    rw [e1]
    simp [h1]
  · rw [h2] at k1
    refine lv_tableOut (tgt := tg a) hx hb hd ?_ (by omega) k1
    rcases Int.lt_or_le x.toInt (b : Int) with q | q
    · exact Or.inl q
    · refine Or.inr ?_
      rcases Int.lt_or_le (((b + ts.length : Nat) : Int) - 1) x.toInt with q2 | q2
      · exact q2
      · exfalso
        refine h1 (x.toInt - b).toNat (by omega) (Int32.toInt_inj.mp ?_)
        rw [show (Int32.ofNat (b + (x.toInt - b).toNat)).toInt = _ from nI_toInt (by omega)]
        omega
theorem sd_lsw (C : mx_Cx p R s m args c cells slots cc nL own g L xs Y) {len t0 t1 : Nat} {tg : Nat → Nat} (hd : decode cc pc = .ok (.lookupswitch ((tg a : Int) - pc) #[(0, (tg t0 : Int) - pc), (1, (tg t1 : Int) - pc)], len)) (kk : mx_W p l e R s m args below meth c cells slots Q nL g L xs (tg (mx_sw x a 0 [t0, t1])) loc r σ) : mx_W p l e R s m args below meth c cells slots Q nL g L xs pc loc (Sum.inl x :: r) σ := by
  obtain ⟨hx, hb, -⟩ := C
  intro H ls locs hP hS hv hs hlo hc
  obtain ⟨-, hs⟩ := List.forall_mem_cons.mp hs
  have k1 := kk H ls locs hP hS hv hs hlo hc
  have h0 : (x = Int32.ofNat 0) ↔ x.toInt = 0 := by rw [← Int32.toInt_inj]; exact Iff.rfl
  have h1 : (x = Int32.ofNat 1) ↔ x.toInt = 1 := by rw [← Int32.toInt_inj]; exact Iff.rfl
  have e : mx_sw x a 0 [t0, t1] = if x.toInt = 0 then t0 else if x.toInt = 1 then t1 else a := by
    show (if x = Int32.ofNat 0 then t0 else if x = Int32.ofNat 1 then t1 else a) = _
    simp only [h0, h1]
  rw [e] at k1
  by_cases q0 : x.toInt = 0
  · rw [if_pos q0] at k1
    exact lv_lookup (off := (tg t0 : Int) - pc) hx hb hd (by simp) (by rw [Op.lookupswitch.offset_cons, if_pos q0.symm]) (by omega) k1
  · rw [if_neg q0] at k1
    by_cases q1 : x.toInt = 1
    · rw [if_pos q1] at k1
      exact lv_lookup (off := (tg t1 : Int) - pc) hx hb hd (by simp) (by rw [Op.lookupswitch.offset_cons, if_neg (Ne.symm q0), Op.lookupswitch.offset_cons, if_pos q1.symm]) (by omega) k1
    · rw [if_neg q1] at k1
      exact lv_lookup (off := (tg a : Int) - pc) hx hb hd (by simp) (by rw [Op.lookupswitch.offset_cons, if_neg (Ne.symm q0), Op.lookupswitch.offset_cons, if_neg (Ne.symm q1)]; rfl) (by omega) k1
theorem mx_obj {k o : Nat} (h : mx_cO o = a + 1) : mx_cell g σ k o = .inr (a, (List.range (mx_nf o)).map (mx_fv g σ k o)) := by
  unfold mx_cell
  rw [h]
theorem mx_arr {k o : Nat} (h : mx_aT o ≠ 0) (ho : o < 55) : mx_cell g σ k o = .inl (g.2.2.1 (mx_aT o), mx_aN o, if mx_aT o ≤ 3 then .inl (σ k o) else .inr (.inr (.inr (.inr (fun j => some (g.1 (mx_rA o j).1 (mx_rA o j).2)))))) := by
  unfold mx_cell
  rw [(mx_aT_c o ho).1 h]
theorem sd_getf (C : mx_Cx p R s m args c cells slots cc nL own g L xs Y) {k o : Nat} (hN : b < mx_nf o) (hd : decode cc pc = .ok (.getfield x0, 3)) (hw : Cond.fieldLink own x0 (mx_cl a).1 ((mx_cl a).2.1 b).2.1 ((mx_cl a).2.1 b).2.2.1 ∈ lw_gd) (hT : ((mx_cl a).2.1 b).1 = (mx_cl a).1) (ho : mx_cO o = a + 1) (hk : k < mx_kM o) {v : mx_V} (hv0 : mx_okV v) (hfv : mx_fv g σ k o b = mx_rv g v) (kk : mx_W p l e R s m args below meth c cells slots Q nL g L xs (pc + 3) loc (v :: r) σ) : mx_W p l e R s m args below meth c cells slots Q nL g L xs pc loc (Sum.inr (Sum.inr (k, o)) :: r) σ := by
  obtain ⟨hx, hb, -, hown, hts, hF, hinj, hq, -⟩ := C
  intro H ls locs hP hS hv hs hlo hc
  obtain ⟨-, hs⟩ := List.forall_mem_cons.mp hs
  have ho5 : o < 55 := mx_kM_lt hk
  obtain ⟨ha9, hnf⟩ := (mx_aT_c o ho5).2 (by omega)
  have ea : mx_cO o - 1 = a := by omega
  rw [ea] at ha9 hnf
  obtain ⟨i, hi⟩ := mx_at hk
  have he : (mx_ws g σ)[i]? = some (g.1 k o, .inr (a, (List.range (mx_nf o)).map (mx_fv g σ k o))) := by rw [mx_ws_at hi, mx_obj ho]
  rw [List.map_cons, mx_rv_ref hk]
  refine va_get (C := (mx_cl a).1) (T := (mx_cl a).2.1) (N := (mx_cl a).2.2) (ref := (mx_cl a).1) (own := own) (index := x0) hx hb hts (mx_uw a ha9) hown hF.1 hP i he (mx_cl_at ha9) b (by rw [show (mx_cl a).2.2 = mx_nf o from hnf.symm]; exact hN) (hts _ hw) (fun z hz => by rw [hT] at hz; exact hz) (v := mx_rv g v) (by rw [List.getElem?_map, List.getElem?_range hN]; exact congrArg some hfv) hd ?_
  exact kk H ls locs hP hS hv (List.forall_mem_cons.mpr ⟨hv0, hs⟩) hlo hc
theorem mx_fs_set {k o j : Nat} {x : Int32} {v : Value} (hj : j < mx_nf o) (hv : mx_fv g (mx_up σ k o j x) k o j = v) : ((List.range (mx_nf o)).map (mx_fv g σ k o)).set j v = (List.range (mx_nf o)).map (mx_fv g (mx_up σ k o j x) k o) := by
  apply List.ext_getElem?
  intro n
  by_cases hn : n = j
  · subst hn
    rw [List.getElem?_set_self (by simpa using hj), List.getElem?_map, List.getElem?_range hj, ← hv]
    rfl
  · rw [List.getElem?_set_ne (Ne.symm hn), List.getElem?_map, List.getElem?_map]
    by_cases hl : n < mx_nf o
    · rw [List.getElem?_range hl]
      simp only [Option.map_some]
      have : mx_up σ k o j x k o n = σ k o n := by rw [mx_up_s]; exact if_neg hn
      unfold mx_fv
      rw [this]
    · rw [List.getElem?_eq_none (by simpa using hl)]
      rfl
theorem sd_putf (C : mx_Cx p R s m args c cells slots cc nL own g L xs Y) {k o : Nat} {v : mx_V} {z : Int32} (hN : b < mx_nf o) (hd : decode cc pc = .ok (.putfield x0, 3)) (hw : Cond.fieldLink own x0 (mx_cl a).1 ((mx_cl a).2.1 b).2.1 ((mx_cl a).2.1 b).2.2.1 ∈ lw_gd) (hT : ((mx_cl a).2.1 b).1 = (mx_cl a).1) (ho : mx_cO o = a + 1) (hk : k < mx_kM o) (hnf2 : mx_fk o b ≠ 2) (hn : narrow (mx_tyf a b) (mx_rv g v) = mx_rv g v) (hfit : fits (mx_tyf a b) (mx_rv g v) = true) (hfv : mx_fv g (mx_up σ k o b z) k o b = mx_rv g v) (kk : mx_W p l e R s m args below meth c cells slots Q nL g L xs (pc + 3) loc r (mx_up σ k o b z)) : mx_W p l e R s m args below meth c cells slots Q nL g L xs pc loc (v :: Sum.inr (Sum.inr (k, o)) :: r) σ := by
  obtain ⟨hx, hb, -, hown, hts, hF, hinj, hq, -⟩ := C
  intro H ls locs hP hS hv hs hlo hc
  obtain ⟨-, hs⟩ := List.forall_mem_cons.mp hs
  obtain ⟨-, hs⟩ := List.forall_mem_cons.mp hs
  have ho5 : o < 55 := mx_kM_lt hk
  obtain ⟨ha9, hnf⟩ := (mx_aT_c o ho5).2 (by omega)
  have ea : mx_cO o - 1 = a := by omega
  rw [ea] at ha9 hnf
  obtain ⟨i, hi⟩ := mx_at hk
  have he : (mx_ws g σ)[i]? = some (g.1 k o, .inr (a, (List.range (mx_nf o)).map (mx_fv g σ k o))) := by rw [mx_ws_at hi, mx_obj ho]
  have hNc : b < (mx_cl a).2.2 := by rw [show (mx_cl a).2.2 = mx_nf o from hnf.symm]; exact hN
  have hfin := mx_fk_f o ho5 (by omega) b hN hnf2
  rw [ea] at hfin
  rw [List.map_cons, List.map_cons, mx_rv_ref hk]
  refine va_put (C := (mx_cl a).1) (T := (mx_cl a).2.1) (N := (mx_cl a).2.2) (ref := (mx_cl a).1) (own := own) (index := x0) hx hb hts (mx_uw a ha9) (mx_tyf a) (mx_ty_ok a ha9) (mx_nm_ok a ha9) hown hF.1 hP (mx_Dof hinj σ) hS i he (mx_cl_at ha9) b hNc (hts _ hw) (fun z hz => by rw [hT] at hz; exact hz) hfin (ty := mx_tyf a b) (v := mx_rv g v) (mx_ty_ok a ha9 b hNc) hn hfit (by simpa using hN) hd (fun H1 locs1 hP1 hD1 hS1 => ?_)
  have ew : (mx_ws g σ).set i (g.1 k o, .inr (a, ((List.range (mx_nf o)).map (mx_fv g σ k o)).set b (mx_rv g v))) = mx_ws g (mx_up σ k o b z) := mx_ws_set hi (by rw [mx_obj ho, mx_fs_set hN hfv]) (fun k' o' h => mx_cell_congr (mx_up_o h))
  rw [ew] at hP1
  refine kk H1 ls locs1 hP1 hS1 hv hs hlo ?_
  have hne : ∀ k', (k', mx_oX) ≠ (k, o) := fun k' h => by cases h; exact absurd ho5 (by decide)
  exact ⟨by rw [mx_up_o (hne 0)]; exact hc.1, fun j hj => by rw [mx_up_o (hne 1)]; exact hc.2 j hj⟩
theorem sd_iald (C : mx_Cx p R s m args c cells slots cc nL own g L xs Y) {k o : Nat} {i : Int32} (hd : decode cc pc = .ok (.iaload, 1)) (ht : mx_aT o = 1) (hk : k < mx_kM o) (kk : mx_g False i (mx_aN o) (fun j => mx_W p l e R s m args below meth c cells slots Q nL g L xs (pc + 1) loc (Sum.inl (σ k o j) :: r) σ)) : mx_W p l e R s m args below meth c cells slots Q nL g L xs pc loc (Sum.inl i :: Sum.inr (Sum.inr (k, o)) :: r) σ := by
  obtain ⟨hx, hb, -, hown, hts, hF, hinj, hq, -⟩ := C
  intro H ls locs hP hS hv hs hlo hc
  obtain ⟨-, hs⟩ := List.forall_mem_cons.mp hs
  obtain ⟨-, hs⟩ := List.forall_mem_cons.mp hs
  obtain ⟨n, hn⟩ := mx_at hk
  have he : (mx_ws g σ)[n]? = some (g.1 k o, .inl (g.2.2.1 1, mx_aN o, .inl (σ k o))) := by rw [mx_ws_at hn, mx_arr (by omega) (mx_kM_lt hk), ht]; rfl
  unfold mx_g at kk
  split at kk
  · exact kk.elim
  · rename_i hin
    rw [List.map_cons, List.map_cons, mx_rv_ref hk]
    exact va_iald hx hb hF.1 hP n 0 he rfl hin hd (kk H ls locs hP hS hv (List.forall_mem_cons.mpr ⟨trivial, hs⟩) hlo hc)
theorem sd_bald (C : mx_Cx p R s m args c cells slots cc nL own g L xs Y) {k o : Nat} {i : Int32} (hd : decode cc pc = .ok (.baload, 1)) (ht : mx_aT o = 2 ∨ mx_aT o = 3) (hk : k < mx_kM o) (kk : mx_g False i (mx_aN o) (fun j => mx_W p l e R s m args below meth c cells slots Q nL g L xs (pc + 1) loc (Sum.inl (σ k o j) :: r) σ)) : mx_W p l e R s m args below meth c cells slots Q nL g L xs pc loc (Sum.inl i :: Sum.inr (Sum.inr (k, o)) :: r) σ := by
  obtain ⟨hx, hb, -, hown, hts, hF, hinj, hq, -⟩ := C
  intro H ls locs hP hS hv hs hlo hc
  obtain ⟨-, hs⟩ := List.forall_mem_cons.mp hs
  obtain ⟨-, hs⟩ := List.forall_mem_cons.mp hs
  obtain ⟨n, hn⟩ := mx_at hk
  unfold mx_g at kk
  split at kk
  · exact kk.elim
  · rename_i hin
    rw [List.map_cons, List.map_cons, mx_rv_ref hk]
    rcases ht with ht | ht
    · have he : (mx_ws g σ)[n]? = some (g.1 k o, .inl (g.2.2.1 2, mx_aN o, .inl (σ k o))) := by rw [mx_ws_at hn, mx_arr (by omega) (mx_kM_lt hk), ht]; rfl
      exact va_bald hx hb hF.1 hP n 1 he rfl hin hd (kk H ls locs hP hS hv (List.forall_mem_cons.mpr ⟨trivial, hs⟩) hlo hc)
    · have he : (mx_ws g σ)[n]? = some (g.1 k o, .inl (g.2.2.1 3, mx_aN o, .inl (σ k o))) := by rw [mx_ws_at hn, mx_arr (by omega) (mx_kM_lt hk), ht]; rfl
      exact va_zald hx hb hF.1 hP n 2 he rfl hin hd (kk H ls locs hP hS hv (List.forall_mem_cons.mpr ⟨trivial, hs⟩) hlo hc)
theorem mx_arr_set {k o n j : Nat} {x : Int32} {t : Nat} (hn : mx_cs[n]? = some (k, o)) (hk : k < mx_kM o) (ht : mx_aT o = t) (ht0 : t ≠ 0) (ht3 : t ≤ 3) : (mx_ws g σ).set n (g.1 k o, .inl (g.2.2.1 t, mx_aN o, .inl (upd (σ k o) j x))) = mx_ws g (mx_up σ k o j x) := by
  refine mx_ws_set hn ?_ (fun k' o' h => mx_cell_congr (mx_up_o h))
  rw [mx_arr (by omega) (mx_kM_lt hk), ht, if_pos ht3, mx_up_s]
theorem mx_sc_up {k o j : Nat} {x : Int32} (hk : k < mx_kM o) (hc : mx_sc L xs σ) : mx_sc L xs (mx_up σ k o j x) := by
  have ho5 := mx_kM_lt hk
  have hne : ∀ k', (k', mx_oX) ≠ (k, o) := fun k' h => by cases h; exact absurd ho5 (by decide)
  exact ⟨by rw [mx_up_o (hne 0)]; exact hc.1, fun j hj => by rw [mx_up_o (hne 1)]; exact hc.2 j hj⟩
theorem sd_iast (C : mx_Cx p R s m args c cells slots cc nL own g L xs Y) {k o : Nat} {i : Int32} (hd : decode cc pc = .ok (.iastore, 1)) (ht : mx_aT o = 1) (hk : k < mx_kM o) (kk : mx_g False i (mx_aN o) (fun j => mx_w (mx_up σ k o j x) (fun σ => mx_W p l e R s m args below meth c cells slots Q nL g L xs (pc + 1) loc r σ))) : mx_W p l e R s m args below meth c cells slots Q nL g L xs pc loc (Sum.inl x :: Sum.inl i :: Sum.inr (Sum.inr (k, o)) :: r) σ := by
  obtain ⟨hx, hb, -, hown, hts, hF, hinj, hq, -⟩ := C
  intro H ls locs hP hS hv hs hlo hc
  obtain ⟨-, hs⟩ := List.forall_mem_cons.mp hs
  obtain ⟨-, hs⟩ := List.forall_mem_cons.mp hs
  obtain ⟨-, hs⟩ := List.forall_mem_cons.mp hs
  obtain ⟨n, hn⟩ := mx_at hk
  have he : (mx_ws g σ)[n]? = some (g.1 k o, .inl (g.2.2.1 1, mx_aN o, .inl (σ k o))) := by rw [mx_ws_at hn, mx_arr (by omega) (mx_kM_lt hk), ht]; rfl
  unfold mx_g at kk
  split at kk
  · exact kk.elim
  · rename_i hin
    rw [List.map_cons, List.map_cons, List.map_cons, mx_rv_ref hk]
    refine va_iast hx hb hF.1 hP (mx_Dof hinj σ) hS n 0 he rfl hin hd (fun H1 locs1 hP1 hD1 hS1 => ?_)
    rw [mx_arr_set hn hk ht (by omega) (by omega)] at hP1
    exact kk H1 ls locs1 hP1 hS1 hv hs hlo (mx_sc_up hk hc)
theorem sd_bast (C : mx_Cx p R s m args c cells slots cc nL own g L xs Y) {k o : Nat} {i : Int32} (hd : decode cc pc = .ok (.bastore, 1)) (ht : mx_aT o = b + 2) (hb2 : b < 2) (hk : k < mx_kM o) (kk : mx_g False i (mx_aN o) (fun j => mx_w (mx_up σ k o j (mx_nr b x)) (fun σ => mx_W p l e R s m args below meth c cells slots Q nL g L xs (pc + 1) loc r σ))) : mx_W p l e R s m args below meth c cells slots Q nL g L xs pc loc (Sum.inl x :: Sum.inl i :: Sum.inr (Sum.inr (k, o)) :: r) σ := by
  obtain ⟨hx, hb, -, hown, hts, hF, hinj, hq, -⟩ := C
  intro H ls locs hP hS hv hs hlo hc
  obtain ⟨-, hs⟩ := List.forall_mem_cons.mp hs
  obtain ⟨-, hs⟩ := List.forall_mem_cons.mp hs
  obtain ⟨-, hs⟩ := List.forall_mem_cons.mp hs
  obtain ⟨n, hn⟩ := mx_at hk
  unfold mx_g at kk
  split at kk
  · exact kk.elim
  · rename_i hin
    rw [List.map_cons, List.map_cons, List.map_cons, mx_rv_ref hk]
    rcases (show b = 0 ∨ b = 1 by omega) with rfl | rfl
    · have he : (mx_ws g σ)[n]? = some (g.1 k o, .inl (g.2.2.1 2, mx_aN o, .inl (σ k o))) := by rw [mx_ws_at hn, mx_arr (by omega) (mx_kM_lt hk), ht]; rfl
      refine va_bast hx hb hF.1 hP (mx_Dof hinj σ) hS n 1 he rfl hin hd (fun H1 locs1 hP1 hD1 hS1 => ?_)
      rw [mx_arr_set hn hk ht (by omega) (by omega)] at hP1
      exact kk H1 ls locs1 hP1 hS1 hv hs hlo (mx_sc_up hk hc)
    · have he : (mx_ws g σ)[n]? = some (g.1 k o, .inl (g.2.2.1 3, mx_aN o, .inl (σ k o))) := by rw [mx_ws_at hn, mx_arr (by omega) (mx_kM_lt hk), ht]; rfl
      refine va_zast hx hb hF.1 hP (mx_Dof hinj σ) hS n 2 he rfl hin hd (fun H1 locs1 hP1 hD1 hS1 => ?_)
      rw [mx_arr_set hn hk ht (by omega) (by omega)] at hP1
      exact kk H1 ls locs1 hP1 hS1 hv hs hlo (mx_sc_up hk hc)
theorem mx_rA_ok : ∀ o, o < 55 → 4 ≤ mx_aT o → ∀ j, j < mx_aN o → (mx_rA o j).1 < mx_kM (mx_rA o j).2 := by decide +kernel
theorem sd_aald (C : mx_Cx p R s m args c cells slots cc nL own g L xs Y) {k o : Nat} {i : Int32} (hd : decode cc pc = .ok (.aaload, 1)) (ht : mx_aT o = 4 ∨ mx_aT o = 5) (hk : k < mx_kM o) (kk : mx_g False i (mx_aN o) (fun j => mx_W p l e R s m args below meth c cells slots Q nL g L xs (pc + 1) loc (Sum.inr (Sum.inr ((mx_rA o j).1, (mx_rA o j).2)) :: r) σ)) : mx_W p l e R s m args below meth c cells slots Q nL g L xs pc loc (Sum.inl i :: Sum.inr (Sum.inr (k, o)) :: r) σ := by
  obtain ⟨hx, hb, -, hown, hts, hF, hinj, hq, -⟩ := C
  intro H ls locs hP hS hv hs hlo hc
  obtain ⟨-, hs⟩ := List.forall_mem_cons.mp hs
  obtain ⟨-, hs⟩ := List.forall_mem_cons.mp hs
  obtain ⟨n, hn⟩ := mx_at hk
  unfold mx_g at kk
  split at kk
  · exact kk.elim
  · rename_i hin
    rw [List.map_cons, List.map_cons, mx_rv_ref hk]
    have hj : i.toNatClampNeg < mx_aN o := Nat.not_le.mp fun q => hin (Or.inr q)
    have hr := mx_rA_ok o (mx_kM_lt hk) (by omega) _ hj
    have k1 := kk H ls locs hP hS hv (List.forall_mem_cons.mpr ⟨Or.inl hr, hs⟩) hlo hc
    rw [List.map_cons, mx_rv_ref hr] at k1
    rcases ht with ht | ht
    · have he : (mx_ws g σ)[n]? = some (g.1 k o, .inl (g.2.2.1 4, mx_aN o, .inr (.inr (.inr (.inr (fun j => some (g.1 (mx_rA o j).1 (mx_rA o j).2))))))) := by rw [mx_ws_at hn, mx_arr (by omega) (mx_kM_lt hk), ht]; rfl
      exact va_aldq hx hb hF.1 hP n 3 he rfl hin hd k1
    · have he : (mx_ws g σ)[n]? = some (g.1 k o, .inl (g.2.2.1 5, mx_aN o, .inr (.inr (.inr (.inr (fun j => some (g.1 (mx_rA o j).1 (mx_rA o j).2))))))) := by rw [mx_ws_at hn, mx_arr (by omega) (mx_kM_lt hk), ht]; rfl
      exact va_aldq hx hb hF.1 hP n 4 he rfl hin hd k1
theorem sd_alen (C : mx_Cx p R s m args c cells slots cc nL own g L xs Y) {k o : Nat} (hd : decode cc pc = .ok (.arraylength, 1)) (ht : mx_aT o = 1) (hk : k < mx_kM o) (kk : mx_W p l e R s m args below meth c cells slots Q nL g L xs (pc + 1) loc (Sum.inl (Int32.ofNat (mx_aN o)) :: r) σ) : mx_W p l e R s m args below meth c cells slots Q nL g L xs pc loc (Sum.inr (Sum.inr (k, o)) :: r) σ := by
  obtain ⟨hx, hb, -, hown, hts, hF, hinj, hq, -⟩ := C
  intro H ls locs hP hS hv hs hlo hc
  obtain ⟨-, hs⟩ := List.forall_mem_cons.mp hs
  obtain ⟨n, hn⟩ := mx_at hk
  have he : (mx_ws g σ)[n]? = some (g.1 k o, .inl (g.2.2.1 1, mx_aN o, .inl (σ k o))) := by rw [mx_ws_at hn, mx_arr (by omega) (mx_kM_lt hk), ht]; rfl
  rw [List.map_cons, mx_rv_ref hk]
  exact va_alen hx hb hF.1 hP n 0 he (ty := .int) rfl rfl hd (kk H ls locs hP hS hv (List.forall_mem_cons.mpr ⟨trivial, hs⟩) hlo hc)
def mx_Q (g : mx_G) (r : mx_Rt) : Array Value → State → Outcome → State → Prop := fun _ st oc t => oc = .returned (r.1.map (mx_rv g)) ∧ va_P g.2.1 vwCl (mx_ws g r.2) t.heap ∧ va_F (mx_A g) st t
def mx_Pc (g : mx_G) (L : Nat) (xs : Nat → Int32) (as : List mx_V) (σ : mx_S) : Array Value → State → Prop := va_Pc (as.map (mx_rv g)) (fun U => va_P g.2.1 vwCl (mx_ws g σ) U.heap ∧ mx_Fx g L xs U)
def mx_rm (y : Nat) : Room := { frames := y + 2, cells := 0, slots := 0, locals := 100 * (y + 2) }
abbrev mx_wy (y : Nat) : List Cond := Cond.code (mx_mN y) (mx_mC y) (mx_nl y) (mx_mR y) :: lw_gd
/-- what is to be shown of a method's answer -/
def mx_OK (l : Launch) (y : Nat) (as : List mx_V) (σ : mx_S) (r : mx_Rt) : Prop := ∀ (g : mx_G) (L : Nat) (xs : Nat → Int32), mx_inj g → g.2.2.2.category = 1 → L < 2 ^ 31 → (∀ v ∈ as, mx_okV v) → mx_wd as ≤ mx_nl y → mx_sc L xs σ → Met l (mx_mN y) (mx_wy y) (mx_rm y) (mx_Pc g L xs as σ) (mx_Q g r) 0 0 (mx_A g)
theorem mx_blind {as : List mx_V} : FrameBlind (mx_Pc g L xs as σ) := by
  intro a U f mk q
  exact ⟨q.1, q.2.1, q.2.2.same rfl rfl⟩
theorem mx_callW {rest st0 : List Value} {rr : mx_Rt} {aa : Array Value} {H : Heap} {locs : List Loc} {ls : Array Slot} (hr : va_Run p l e R s m args below meth c H locs cells slots 0 0 (F0 m pc ls st0) rest (mx_Q g rr aa) (mx_A g)) (hS : va_S (mx_A g) s.heap H locs) (kk : ∀ (H1 : Heap) (locs1 : List Loc), va_P g.2.1 vwCl (mx_ws g rr.2) H1 → va_S (mx_A g) s.heap H1 locs1 → W p l e R s m args below meth c H1 locs1 cells slots Q (F0 m (pc + 3) ls ((rr.1.map (mx_rv g)).toList ++ rest))) : W p l e R s m args below meth c H locs cells slots Q (F0 m pc ls st0) := by
  intro T hT X
  obtain ⟨v, st₀, t, T', Lc, h0, X', hL, e1, e2, ⟨hv, hP1, hz, hk⟩, st⟩ := hr T hT X
  have hv : v = rr.1.map (mx_rv g) := by injection hv
  subst hv
  rw [h0] at hz hk
  obtain ⟨t2, a1, b1⟩ := kk T'.heap (locs ++ Lc) (by rw [e1]; exact hP1) ⟨Nat.le_trans hS.1 (by rw [e1]; exact hz), fun q h1 h2 => by rw [e1, hk q (Nat.lt_of_lt_of_le h1 hS.1) h2]; exact hS.2.1 q h1 h2, fun q hq => by
    rcases List.mem_append.mp hq with h | h
    · exact hS.2.2 q h
    · exact hL q h⟩ T' rfl X'
  exact ⟨t2, st t2 a1, b1⟩
theorem lw_gd_good : GoodIn lw_gd lw_gd := fun w h => ⟨h, good_of_word (List.mem_filter.mp h).2⟩
theorem mx_good {y : Nat} (h : Cond.code (mx_mN y) (mx_mC y) (mx_nl y) (mx_mR y) ∈ lw_gd) : GoodIn lw_gd (mx_wy y) := fun w hw => (List.mem_cons.mp hw).elim (fun e => e ▸ lw_gd_good _ h) (fun e => lw_gd_good _ e)
theorem mx_catle {v : mx_V} (hq : g.2.2.2.category = 1) : (mx_rv g v).category ≤ 2 := by
  rcases v with x | x | x
  · exact Nat.le_succ 1
  · exact Nat.le_refl 2
  · show (if x.2 = mx_oQ then g.2.2.2 else Value.ref (g.1 x.1 x.2)).category ≤ 2
    split
    · omega
    · exact Nat.le_succ 1
theorem mx_sum (hq : g.2.2.2.category = 1) : ∀ (st : List mx_V), ((st.map (mx_rv g)).map fun v => v.category).sum ≤ 2 * st.length
  | [] => Nat.le_refl 0
  | v :: st => by
    have h1 := mx_sum hq st
    have h2 := mx_catle (g := g) (v := v) hq
    simp only [List.map_cons, List.sum_cons, List.length_cons]
    omega
/-- the words of a method, as a call of it wants them -/
def mx_mok (y : Nat) : Prop := Cond.code (mx_mN y) (mx_mC y) (mx_nl y) (mx_mR y) ∈ lw_gd ∧ Cond.initialized (mx_mN y).cls ∈ lw_gd ∧ (mx_mN y).cls ≠ "java/lang/invoke/MethodHandle" ∧ (mx_mN y).cls ≠ "java/lang/invoke/VarHandle"
theorem sd_callV (C : mx_Cx p R s m args c cells slots cc nL own g L xs Y) {y' : Nat} {v0 : mx_V} {as rest : List mx_V} {rr : mx_Rt} {ad0 : Nat} {host : String} (hY : y' < Y) (hwd : mx_wd (v0 :: as) ≤ mx_nl y') (hOK : mx_OK l y' (v0 :: as) σ rr) (hm : mx_mok y') (hn : (parseMethodDescriptor (mx_mN y').desc).map (fun d => d.parameters.length) = some as.length) (hi : Cond.instanceMethod (mx_mN y') ∈ lw_gd) (hse : Cond.selects (mx_mN y').cls (mx_mN y') (mx_mN y') ∈ lw_gd) (hl : Cond.methodLink own x0 (mx_mN y') ∈ lw_gd ∨ va_Nw (.methodLinkNest own x0 (mx_mN y') host) s) (hd : decode cc pc = .ok (.invokevirtual x0, 3)) (h4 : rest.length ≤ 4) (hstk : stk = (v0 :: as).reverse ++ rest) (hv0 : mx_rv g v0 = .ref ad0)
    (hrc : ∀ H locs, va_P g.2.1 vwCl (mx_ws g σ) H → va_S (mx_A g) s.heap H locs → ∃ cell : Cell, H[ad0]? = some cell ∧ cell.vm.isStatics = false ∧ s.vm.findClass (mx_mN y').cls = some cell.cls)
    (hX : ∀ k j, rr.2 k mx_oX j = σ k mx_oX j) (hrv : ∀ v, rr.1 = some v → mx_okV v) (kk : mx_W p l e R s m args below meth c cells slots Q nL g L xs (pc + 3) loc (rr.1.toList ++ rest) rr.2) : mx_W p l e R s m args below meth c cells slots Q nL g L xs pc loc stk σ := by
  obtain ⟨hx, hb, hml, hown, hts, hF, hinj, hq, hcs, hL31, hR1, hRY⟩ := C
  intro H ls locs hP hS hv hs hlo hc
  obtain ⟨hcode, hini, hc1, hc2⟩ := hm
  subst hstk
  have hs1 : ∀ v ∈ v0 :: as, mx_okV v := fun v h => hs v (List.mem_append_left _ (List.mem_reverse.mpr h))
  have hs2 : ∀ v ∈ rest, mx_okV v := fun v h => hs v (List.mem_append_right _ h)
  have hM := hOK g L xs hinj hq hL31 hs1 hwd hc
  have hPre : PreV s H (mx_mN y').cls ad0 (mx_Pc g L xs (v0 :: as) σ) (as.map (mx_rv g)) := ⟨mx_blind, hrc H locs hP hS, fun U hU hW => ⟨by rw [List.map_cons, hv0], by rw [hU]; exact hP, hF.warm hW hU hS⟩⟩
  have hstk : ((v0 :: as).reverse ++ rest).map (mx_rv g) = (as.map (mx_rv g)).reverse ++ .ref ad0 :: rest.map (mx_rv g) := by
    rw [List.map_append, List.reverse_cons, List.map_append, List.map_reverse, List.append_assoc]
    show _ ++ (mx_rv g v0 :: _) = _
    rw [hv0]
    rfl
  have hrun : va_Run p l e R s m args below meth c H locs cells slots 0 0 (F0 m pc ls (((v0 :: as).reverse ++ rest).map (mx_rv g))) (rest.map (mx_rv g)) (mx_Q g rr (Value.ref ad0 :: as.map (mx_rv g)).toArray) (mx_A g) := by
    rcases hl with hl | hl
    · exact va_runV (g := F0 m pc ls (((v0 :: as).reverse ++ rest).map (mx_rv g))) (As := as.map (mx_rv g)) (rest := rest.map (mx_rv g)) (b := ad0) (C := (mx_mN y').cls) ⟨hx, hb, hml, hown, hts⟩ hM ⟨callB_of as.length hts (mx_good hcode) rfl rfl rfl (hts _ hini) (hts _ hl) ⟨hc1, hc2, hn⟩ (hRY y' hY), hts _ hi, hts _ hse⟩ hPre rfl (by rw [List.length_map]) hv.1 hstk (lv_room (Nat.le_trans (mx_sum hq rest) (by omega))) hd ⟨hcs.1, hcs.2⟩
    · exact va_runVN (g := F0 m pc ls (((v0 :: as).reverse ++ rest).map (mx_rv g))) (As := as.map (mx_rv g)) (rest := rest.map (mx_rv g)) (b := ad0) (C := (mx_mN y').cls) (host := host) ⟨hx, hb, hml, hown, hts⟩ hM ⟨va_cnB as.length hts (mx_good hcode) rfl rfl rfl hl (hts _ hini) ⟨hc1, hc2, hn⟩ (hRY y' hY), hts _ hi, hts _ hse⟩ hPre rfl (by rw [List.length_map]) hv.1 hstk (lv_room (Nat.le_trans (mx_sum hq rest) (by omega))) hd ⟨hcs.1, hcs.2⟩
  refine mx_callW (rr := rr) hrun hS (fun H1 locs1 hP1 hS1 => ?_)
  have k1 := kk H1 ls locs1 hP1 hS1 hv (fun v h => by
    rcases List.mem_append.mp h with h | h
    · exact hrv v (Option.mem_toList.mp h)
    · exact hs2 v h) hlo ⟨by rw [hX]; exact hc.1, fun j hj => by rw [hX]; exact hc.2 j hj⟩
  have e1 : (rr.1.toList ++ rest).map (mx_rv g) = (rr.1.map (mx_rv g)).toList ++ rest.map (mx_rv g) := by
    rw [List.map_append]
    cases rr.1 <;> rfl
  rw [e1] at k1
  exact k1
theorem sd_callS (C : mx_Cx p R s m args c cells slots cc nL own g L xs Y) {y' : Nat} {as rest : List mx_V} {rr : mx_Rt} {host : String} (hY : y' < Y) (hwd : mx_wd as ≤ mx_nl y') (hOK : mx_OK l y' as σ rr) (hm : mx_mok y') (hn : (parseMethodDescriptor (mx_mN y').desc).map (fun d => d.parameters.length) = some as.length) (hi : Cond.static (mx_mN y') ∈ lw_gd) (hl : Cond.methodLink own x0 (mx_mN y') ∈ lw_gd ∨ va_Nw (.methodLinkNest own x0 (mx_mN y') host) s) (hd : decode cc pc = .ok (.invokestatic x0, 3)) (h4 : rest.length ≤ 4) (hstk : stk = as.reverse ++ rest)
    (hX : ∀ k j, rr.2 k mx_oX j = σ k mx_oX j) (hrv : ∀ v, rr.1 = some v → mx_okV v) (kk : mx_W p l e R s m args below meth c cells slots Q nL g L xs (pc + 3) loc (rr.1.toList ++ rest) rr.2) : mx_W p l e R s m args below meth c cells slots Q nL g L xs pc loc stk σ := by
  obtain ⟨hx, hb, hml, hown, hts, hF, hinj, hq, hcs, hL31, hR1, hRY⟩ := C
  intro H ls locs hP hS hv hs hlo hc
  obtain ⟨hcode, hini, hc1, hc2⟩ := hm
  subst hstk
  have hs1 : ∀ v ∈ as, mx_okV v := fun v h => hs v (List.mem_append_left _ (List.mem_reverse.mpr h))
  have hs2 : ∀ v ∈ rest, mx_okV v := fun v h => hs v (List.mem_append_right _ h)
  have hM := hOK g L xs hinj hq hL31 hs1 hwd hc
  have hPre : PreS s H (mx_Pc g L xs as σ) (as.map (mx_rv g)) := ⟨mx_blind, fun U hU hW => ⟨rfl, by rw [hU]; exact hP, hF.warm hW hU hS⟩⟩
  have hstk : (as.reverse ++ rest).map (mx_rv g) = (as.map (mx_rv g)).reverse ++ rest.map (mx_rv g) := by rw [List.map_append, List.map_reverse]
  have hrun : va_Run p l e R s m args below meth c H locs cells slots 0 0 (F0 m pc ls ((as.reverse ++ rest).map (mx_rv g))) (rest.map (mx_rv g)) (mx_Q g rr (as.map (mx_rv g)).toArray) (mx_A g) := by
    rcases hl with hl | hl
    · exact va_runS (g := F0 m pc ls ((as.reverse ++ rest).map (mx_rv g))) (As := as.map (mx_rv g)) (rest := rest.map (mx_rv g)) ⟨hx, hb, hml, hown, hts⟩ hM ⟨callB_of as.length hts (mx_good hcode) rfl rfl rfl (hts _ hini) (hts _ hl) ⟨hc1, hc2, hn⟩ (hRY y' hY), hts _ hi⟩ hPre rfl (by rw [List.length_map]) hv.1 hstk (lv_room (Nat.le_trans (mx_sum hq rest) (by omega))) hd ⟨hcs.1, hcs.2⟩
    · exact va_runSN (g := F0 m pc ls ((as.reverse ++ rest).map (mx_rv g))) (As := as.map (mx_rv g)) (rest := rest.map (mx_rv g)) (host := host) ⟨hx, hb, hml, hown, hts⟩ hM ⟨va_cnB as.length hts (mx_good hcode) rfl rfl rfl hl (hts _ hini) ⟨hc1, hc2, hn⟩ (hRY y' hY), hts _ hi, trivial⟩ hPre rfl (by rw [List.length_map]) hv.1 hstk (lv_room (Nat.le_trans (mx_sum hq rest) (by omega))) hd ⟨hcs.1, hcs.2⟩
  refine mx_callW (rr := rr) hrun hS (fun H1 locs1 hP1 hS1 => ?_)
  have k1 := kk H1 ls locs1 hP1 hS1 hv (fun v h => by
    rcases List.mem_append.mp h with h | h
    · exact hrv v (Option.mem_toList.mp h)
    · exact hs2 v h) hlo ⟨by rw [hX]; exact hc.1, fun j hj => by rw [hX]; exact hc.2 j hj⟩
  have e1 : (rr.1.toList ++ rest).map (mx_rv g) = (rr.1.map (mx_rv g)).toList ++ rest.map (mx_rv g) := by
    rw [List.map_append]
    cases rr.1 <;> rfl
  rw [e1] at k1
  exact k1
theorem sd_ldcS (C : mx_Cx p R s m args c cells slots cc nL own g L xs Y) (ho : own = RX4) (ha : a < 9) (hp : x0 = mx_nth mx_sPT a) (hd : decode cc pc = .ok (.ldc x0, 2)) (kk : mx_W p l e R s m args below meth c cells slots Q nL g L xs (pc + 2) loc (Sum.inr (Sum.inr (a, mx_oS)) :: stk) σ) : mx_W p l e R s m args below meth c cells slots Q nL g L xs pc loc stk σ := by
  obtain ⟨hx, hb, hml, hown, hts, hF, hinj, hq, -⟩ := C
  intro H ls locs hP hS hv hs hlo hc
  subst ho
  subst hp
  exact va_ldcS hx hb hown (hF.2.2.1 a ha) hd (kk H ls locs hP hS hv (List.forall_mem_cons.mpr ⟨Or.inr (Or.inl ⟨Or.inl rfl, ha⟩), hs⟩) hlo hc)
theorem sd_copy (C : mx_Cx p R s m args c cells slots cc nL own g L xs Y) {k o k1 o1 : Nat} {n dp sp : Int32} (hd : decode cc pc = .ok (.invokestatic x0, 3)) (hl : Cond.methodLink own x0 arraycopyName ∈ lw_gd) (hnat : Cond.native arraycopyName ∈ lw_gd) (hst : Cond.static arraycopyName ∈ lw_gd) (hini : Cond.initialized "java/lang/System" ∈ lw_gd) (ht : mx_aT o = 1) (ht1 : mx_aT o1 = 1) (hk : k < mx_kM o) (hk1 : k1 < mx_kM o1) (h4 : r.length ≤ 4) (kk : mx_c σ sp dp k o n k1 o1 False (fun σ => mx_W p l e R s m args below meth c cells slots Q nL g L xs (pc + 3) loc r σ)) : mx_W p l e R s m args below meth c cells slots Q nL g L xs pc loc (Sum.inl n :: Sum.inl dp :: Sum.inr (Sum.inr (k1, o1)) :: Sum.inl sp :: Sum.inr (Sum.inr (k, o)) :: r) σ := by
  obtain ⟨hx, hb, hml, hown, hts, hF, hinj, hq, hcs, hL31, hR1, hRY⟩ := C
  intro H ls locs hP hS hv hs hlo hc
  obtain ⟨-, hs⟩ := List.forall_mem_cons.mp hs
  obtain ⟨-, hs⟩ := List.forall_mem_cons.mp hs
  obtain ⟨-, hs⟩ := List.forall_mem_cons.mp hs
  obtain ⟨-, hs⟩ := List.forall_mem_cons.mp hs
  obtain ⟨-, hs⟩ := List.forall_mem_cons.mp hs
  obtain ⟨i, hi⟩ := mx_at hk
  obtain ⟨i1, hi1⟩ := mx_at hk1
  have he : (mx_ws g σ)[i]? = some (g.1 k o, .inl (g.2.2.1 1, mx_aN o, .inl (σ k o))) := by rw [mx_ws_at hi, mx_arr (by omega) (mx_kM_lt hk), ht]; rfl
  have he1 : (mx_ws g σ)[i1]? = some (g.1 k1 o1, .inl (g.2.2.1 1, mx_aN o1, .inl (σ k1 o1))) := by rw [mx_ws_at hi1, mx_arr (by omega) (mx_kM_lt hk1), ht1]; rfl
  unfold mx_c at kk
  split at kk
  · exact kk.elim
  · rename_i hin
    simp only [not_or] at hin
    obtain ⟨q1, q2, q3, q4, q5⟩ := hin
    rw [List.map_cons, List.map_cons, List.map_cons, List.map_cons, List.map_cons, mx_rv_ref hk, mx_rv_ref hk1]
    refine va_copyi hx hb (by rw [hml]; exact hv.1.symm) hown (hts _ hl) (hts _ hnat) (hts _ hst) (hts _ hini) hF.1 hP (mx_Dof hinj σ) hS i i1 0 0 (ty := .int) he he1 rfl rfl rfl q1 q2 q3 (by omega) (by omega) (fun _ _ => rfl) hR1.1 ?_ hd (fun H1 locs1 hP1 hD1 hS1 => ?_)
    · have := mx_sum (g := g) hq r
      have e7 : nativeFrameWords "java/lang/System" "arraycopy" 5 = 7 := by decide +kernel
      omega
    · have ew : (mx_ws g σ).set i1 (g.1 k1 o1, .inl (g.2.2.1 1, mx_aN o1, .inl (va_cpy (σ k o) (σ k1 o1) sp.toNatClampNeg dp.toNatClampNeg n.toNatClampNeg))) = mx_ws g (mx_cp σ k o k1 o1 sp.toNatClampNeg dp.toNatClampNeg n.toNatClampNeg) := by
        refine mx_ws_set hi1 ?_ (fun k' o' h => mx_cell_congr ?_)
        · have e2 : mx_cp σ k o k1 o1 sp.toNatClampNeg dp.toNatClampNeg n.toNatClampNeg k1 o1 = va_cpy (σ k o) (σ k1 o1) sp.toNatClampNeg dp.toNatClampNeg n.toNatClampNeg := by
            funext j
            exact if_pos ⟨rfl, rfl⟩
          rw [mx_arr (by omega) (mx_kM_lt hk1), ht1, if_pos (by omega), e2]
        · funext j
          exact if_neg (fun q => h (by rw [q.1, q.2]))
      rw [ew] at hP1
      have ho5 := mx_kM_lt hk1
      have hX : ∀ k' j, mx_cp σ k o k1 o1 sp.toNatClampNeg dp.toNatClampNeg n.toNatClampNeg k' mx_oX j = σ k' mx_oX j := fun k' j => if_neg (fun q => absurd (show mx_oX < 55 by rw [q.2]; exact ho5) (by decide))
      exact kk H1 ls locs1 hP1 hS1 hv hs hlo ⟨by rw [hX]; exact hc.1, fun j hj => by rw [hX]; exact hc.2 j hj⟩
theorem sd_gets1 (C : mx_Cx p R s m args c cells slots cc nL own g L xs Y) (hd : decode cc pc = .ok (.getstatic x0, 3)) (hw : Cond.fieldLink own x0 "java/lang/String" "COMPACT_STRINGS" "Z" ∈ lw_gd) (kk : mx_W p l e R s m args below meth c cells slots Q nL g L xs (pc + 3) loc (Sum.inl 1 :: stk) σ) : mx_W p l e R s m args below meth c cells slots Q nL g L xs pc loc stk σ := by
  obtain ⟨hx, hb, hml, hown, hts, hF, hinj, hq, -⟩ := C
  intro H ls locs hP hS hv hs hlo hc
  exact va_gets hx hb hF.2.2.2.1 hS hown (hts _ hw) (fun _ h => h) hd (kk H ls locs hP hS hv (List.forall_mem_cons.mpr ⟨trivial, hs⟩) hlo hc)
theorem sd_gets2 (C : mx_Cx p R s m args c cells slots cc nL own g L xs Y) (hd : decode cc pc = .ok (.getstatic x0, 3)) (hw : Cond.fieldLink own x0 "jdk/internal/util/Preconditions" "SIOOBE_FORMATTER" "Ljava/util/function/BiFunction;" ∈ lw_gd) (kk : mx_W p l e R s m args below meth c cells slots Q nL g L xs (pc + 3) loc (Sum.inr (Sum.inr (0, mx_oQ)) :: stk) σ) : mx_W p l e R s m args below meth c cells slots Q nL g L xs pc loc stk σ := by
  obtain ⟨hx, hb, hml, hown, hts, hF, hinj, hq, -⟩ := C
  intro H ls locs hP hS hv hs hlo hc
  exact va_gets hx hb hF.2.2.2.2.1 hS hown (hts _ hw) (fun _ h => h) hd (kk H ls locs hP hS hv (List.forall_mem_cons.mpr ⟨Or.inr (Or.inr (Or.inl rfl)), hs⟩) hlo hc)
theorem sd_sval (C : mx_Cx p R s m args c cells slots cc nL own g L xs Y) {k : Nat} (hk : k < 9) (hd : decode cc pc = .ok (.getfield x0, 3)) (hw : Cond.fieldLink own x0 "java/lang/String" "value" "[B" ∈ lw_gd) (kk : mx_W p l e R s m args below meth c cells slots Q nL g L xs (pc + 3) loc (Sum.inr (Sum.inr (k, mx_oB)) :: r) σ) : mx_W p l e R s m args below meth c cells slots Q nL g L xs pc loc (Sum.inr (Sum.inr (k, mx_oS)) :: r) σ := by
  obtain ⟨hx, hb, hml, hown, hts, hF, hinj, hq, -⟩ := C
  intro H ls locs hP hS hv hs hlo hc
  obtain ⟨-, hs⟩ := List.forall_mem_cons.mp hs
  exact vk_getf hx hb (hF.2.1.1 k hk).2.2.1 hS hown (hts _ hw) (fun _ h => h) hd (kk H ls locs hP hS hv (List.forall_mem_cons.mpr ⟨Or.inr (Or.inl ⟨Or.inr rfl, hk⟩), hs⟩) hlo hc)
theorem sd_scod (C : mx_Cx p R s m args c cells slots cc nL own g L xs Y) {k : Nat} (hk : k < 9) (hd : decode cc pc = .ok (.getfield x0, 3)) (hw : Cond.fieldLink own x0 "java/lang/String" "coder" "B" ∈ lw_gd) (kk : mx_W p l e R s m args below meth c cells slots Q nL g L xs (pc + 3) loc (Sum.inl 0 :: r) σ) : mx_W p l e R s m args below meth c cells slots Q nL g L xs pc loc (Sum.inr (Sum.inr (k, mx_oS)) :: r) σ := by
  obtain ⟨hx, hb, hml, hown, hts, hF, hinj, hq, -⟩ := C
  intro H ls locs hP hS hv hs hlo hc
  obtain ⟨-, hs⟩ := List.forall_mem_cons.mp hs
  exact vk_getf hx hb (hF.2.1.1 k hk).2.1 hS hown (hts _ hw) (fun _ h => h) hd (kk H ls locs hP hS hv (List.forall_mem_cons.mpr ⟨trivial, hs⟩) hlo hc)
theorem sd_slen (C : mx_Cx p R s m args c cells slots cc nL own g L xs Y) {k : Nat} (hk : k < 9) (hd : decode cc pc = .ok (.arraylength, 1)) (kk : mx_W p l e R s m args below meth c cells slots Q nL g L xs (pc + 1) loc (Sum.inl (Int32.ofNat (mx_sN k)) :: r) σ) : mx_W p l e R s m args below meth c cells slots Q nL g L xs pc loc (Sum.inr (Sum.inr (k, mx_oB)) :: r) σ := by
  obtain ⟨hx, hb, hml, hown, hts, hF, hinj, hq, -⟩ := C
  intro H ls locs hP hS hv hs hlo hc
  obtain ⟨-, hs⟩ := List.forall_mem_cons.mp hs
  exact va_tlen hx hb (hF.2.1.1 k hk).2.2.2 hS (by rw [mx_sN_at k hk]) hd (kk H ls locs hP hS hv (List.forall_mem_cons.mpr ⟨trivial, hs⟩) hlo hc)
theorem sd_sbyt (C : mx_Cx p R s m args c cells slots cc nL own g L xs Y) {k : Nat} {i : Int32} (hk : k < 9) (hd : decode cc pc = .ok (.baload, 1)) (kk : mx_g False i (mx_sN k) (fun j => mx_W p l e R s m args below meth c cells slots Q nL g L xs (pc + 1) loc (Sum.inl (mx_sB k j) :: r) σ)) : mx_W p l e R s m args below meth c cells slots Q nL g L xs pc loc (Sum.inl i :: Sum.inr (Sum.inr (k, mx_oB)) :: r) σ := by
  obtain ⟨hx, hb, hml, hown, hts, hF, hinj, hq, -⟩ := C
  intro H ls locs hP hS hv hs hlo hc
  obtain ⟨-, hs⟩ := List.forall_mem_cons.mp hs
  obtain ⟨-, hs⟩ := List.forall_mem_cons.mp hs
  unfold mx_g at kk
  split at kk
  · exact kk.elim
  · rename_i hin
    have hj : i.toNatClampNeg < mx_sN k := Nat.not_le.mp fun q => hin (Or.inr q)
    exact va_tb hx hb (hF.2.1.1 k hk).2.2.2 hS (i := i) (by rw [mx_sN_at k hk]; exact hin) (by rw [mx_sB_at k hk _ hj]; rfl) hd (kk H ls locs hP hS hv (List.forall_mem_cons.mpr ⟨trivial, hs⟩) hlo hc)
theorem sd_xld (C : mx_Cx p R s m args c cells slots cc nL own g L xs Y) {i : Int32} (hd : decode cc pc = .ok (.iaload, 1)) (kk : mx_g False i (σ 0 mx_oX 0).toNatClampNeg (fun j => mx_W p l e R s m args below meth c cells slots Q nL g L xs (pc + 1) loc (Sum.inl (σ 1 mx_oX j) :: r) σ)) : mx_W p l e R s m args below meth c cells slots Q nL g L xs pc loc (Sum.inl i :: Sum.inr (Sum.inr (0, mx_oX)) :: r) σ := by
  obtain ⟨hx, hb, hml, hown, hts, hF, hinj, hq, hcs, hL31, -⟩ := C
  intro H ls locs hP hS hv hs hlo hc
  obtain ⟨-, hs⟩ := List.forall_mem_cons.mp hs
  obtain ⟨-, hs⟩ := List.forall_mem_cons.mp hs
  rw [hc.1, show (Int32.ofNat L).toNatClampNeg = L from nI_clamp hL31] at kk
  unfold mx_g at kk
  split at kk
  · exact kk.elim
  · rename_i hin
    have hj : i.toNatClampNeg < L := Nat.not_le.mp fun q => hin (Or.inr q)
    rw [hc.2 _ hj] at kk
    exact va_sld hx hb hF.2.2.2.2.2.1 hF.2.2.2.2.2.2.1 hF.2.2.2.2.2.2.2.1 hS hin hd (kk H ls locs hP hS hv (List.forall_mem_cons.mpr ⟨trivial, hs⟩) hlo hc)
theorem sd_xlen (C : mx_Cx p R s m args c cells slots cc nL own g L xs Y) (hd : decode cc pc = .ok (.arraylength, 1)) (kk : mx_W p l e R s m args below meth c cells slots Q nL g L xs (pc + 1) loc (Sum.inl (σ 0 mx_oX 0) :: r) σ) : mx_W p l e R s m args below meth c cells slots Q nL g L xs pc loc (Sum.inr (Sum.inr (0, mx_oX)) :: r) σ := by
  obtain ⟨hx, hb, hml, hown, hts, hF, hinj, hq, hcs, hL31, -⟩ := C
  intro H ls locs hP hS hv hs hlo hc
  obtain ⟨-, hs⟩ := List.forall_mem_cons.mp hs
  have k1 := kk H ls locs hP hS hv (List.forall_mem_cons.mpr ⟨trivial, hs⟩) hlo hc
  rw [hc.1] at k1
  exact va_slen hx hb hF.2.2.2.2.2.1 hF.2.2.2.2.2.2.1 hF.2.2.2.2.2.2.2.1 hS hd k1
theorem mx_mthw : (Cond.static Lib.Math.min.name ∈ lw_gd ∧ Cond.code Lib.Math.min.name Lib.Math.min.code 2 (some .int) ∈ lw_gd) ∧ (Cond.static Lib.Math.max.name ∈ lw_gd ∧ Cond.code Lib.Math.max.name Lib.Math.max.code 2 (some .int) ∈ lw_gd) ∧ (Cond.static Lib.Math.abs.name ∈ lw_gd ∧ Cond.code Lib.Math.abs.name Lib.Math.abs.code 1 (some .int) ∈ lw_gd) ∧ Cond.initialized "java/lang/Math" ∈ lw_gd := ⟨⟨lw_gd_of (k := 614) (by decide +kernel), lw_gd_of (k := 615) (by decide +kernel)⟩, ⟨lw_gd_of (k := 801) (by decide +kernel), lw_gd_of (k := 802) (by decide +kernel)⟩, ⟨lw_gd_of (k := 817) (by decide +kernel), lw_gd_of (k := 818) (by decide +kernel)⟩, lw_gd_of (k := 107) (by decide +kernel)⟩
theorem sd_mmin (C : mx_Cx p R s m args c cells slots cc nL own g L xs Y) (hd : decode cc pc = .ok (.invokestatic x0, 3)) (hl : Cond.methodLink own x0 Lib.Math.min.name ∈ lw_gd) (h4 : r.length ≤ 4) (kk : mx_W p l e R s m args below meth c cells slots Q nL g L xs (pc + 3) loc (Sum.inl (if y < x then y else x) :: r) σ) : mx_W p l e R s m args below meth c cells slots Q nL g L xs pc loc (Sum.inl y :: Sum.inl x :: r) σ := by
  obtain ⟨hx, hb, hml, hown, hts, hF, hinj, hq, hcs, hL31, hR1, hRY⟩ := C
  intro H ls locs hP hS hv hs hlo hc
  obtain ⟨-, hs⟩ := List.forall_mem_cons.mp hs
  obtain ⟨-, hs⟩ := List.forall_mem_cons.mp hs
  have hsum := mx_sum (g := g) hq r
  exact va_mmin hx hb (by rw [hml]; exact hv.1.symm) hown (hts _ hl) (hts _ mx_mthw.1.1) (hts _ mx_mthw.2.2.2) (hts _ mx_mthw.1.2) hR1.1 (by omega) hcs.1 hcs.2 hd (kk H ls locs hP hS hv (List.forall_mem_cons.mpr ⟨trivial, hs⟩) hlo hc)
theorem sd_mmax (C : mx_Cx p R s m args c cells slots cc nL own g L xs Y) (hd : decode cc pc = .ok (.invokestatic x0, 3)) (hl : Cond.methodLink own x0 Lib.Math.max.name ∈ lw_gd) (h4 : r.length ≤ 4) (kk : mx_W p l e R s m args below meth c cells slots Q nL g L xs (pc + 3) loc (Sum.inl (if x < y then y else x) :: r) σ) : mx_W p l e R s m args below meth c cells slots Q nL g L xs pc loc (Sum.inl y :: Sum.inl x :: r) σ := by
  obtain ⟨hx, hb, hml, hown, hts, hF, hinj, hq, hcs, hL31, hR1, hRY⟩ := C
  intro H ls locs hP hS hv hs hlo hc
  obtain ⟨-, hs⟩ := List.forall_mem_cons.mp hs
  obtain ⟨-, hs⟩ := List.forall_mem_cons.mp hs
  have hsum := mx_sum (g := g) hq r
  exact va_mmax hx hb (by rw [hml]; exact hv.1.symm) hown (hts _ hl) (hts _ mx_mthw.2.1.1) (hts _ mx_mthw.2.2.2) (hts _ mx_mthw.2.1.2) hR1.1 (by omega) hcs.1 hcs.2 hd (kk H ls locs hP hS hv (List.forall_mem_cons.mpr ⟨trivial, hs⟩) hlo hc)
theorem sd_mabs (C : mx_Cx p R s m args c cells slots cc nL own g L xs Y) (hd : decode cc pc = .ok (.invokestatic x0, 3)) (hl : Cond.methodLink own x0 Lib.Math.abs.name ∈ lw_gd) (h4 : r.length ≤ 4) (kk : mx_W p l e R s m args below meth c cells slots Q nL g L xs (pc + 3) loc (Sum.inl (if 0 ≤ x then x else 0 - x) :: r) σ) : mx_W p l e R s m args below meth c cells slots Q nL g L xs pc loc (Sum.inl x :: r) σ := by
  obtain ⟨hx, hb, hml, hown, hts, hF, hinj, hq, hcs, hL31, hR1, hRY⟩ := C
  intro H ls locs hP hS hv hs hlo hc
  obtain ⟨-, hs⟩ := List.forall_mem_cons.mp hs
  have hsum := mx_sum (g := g) hq r
  exact va_mabs hx hb (by rw [hml]; exact hv.1.symm) hown (hts _ hl) (hts _ mx_mthw.2.2.1.1) (hts _ mx_mthw.2.2.2) (hts _ mx_mthw.2.2.1.2) hR1.1 (by omega) hcs.1 hcs.2 hd (kk H ls locs hP hS hv (List.forall_mem_cons.mpr ⟨trivial, hs⟩) hlo hc)
end Sd
