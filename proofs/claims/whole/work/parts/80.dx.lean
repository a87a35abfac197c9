/-! ===== the constructors: what stands fast, and the rows that make cells ===== -/
def dx_tys (d : Nat → ClassId) : List (ClassId × FieldType) := [(d 1, .int), (d 2, .byte), (d 3, .boolean), (d 4, .object RX5), (d 5, .object RX2)]
def dx_nw : List (String × Nat × MethodName) := [(RX7, 17, yX4_init), (RX7, 24, yX2_init), (RX2, 9, yX3_init), (RX2, 18, yX6_init), (RX7, 56, yX5_init)]
def dx_K (D : va_G) (d : Nat → ClassId) (U : State) : Prop := va_K D vwCl (dx_tys d) U ∧ (va_AO RX5 U ∧ va_AO RX2 U) ∧ ∀ t ∈ dx_nw, va_Nw (.methodLinkNest t.1 t.2.1 t.2.2 "RailOfHeads") U
theorem dx_K.same {D : va_G} {d : Nat → ClassId} {u U : State} (hv : U.vm = u.vm) (h : dx_K D d u) : dx_K D d U := by
  have ha : u.vm.Alike U.vm := by rw [hv]; exact Vm.Alike.refl u.vm
  exact ⟨h.1.moved ha, ⟨h.2.1.1.moved ha, h.2.1.2.moved ha⟩, fun t ht => (h.2.2 t ht).same rfl hv.symm⟩
theorem dx_K.warm {D : va_G} {d : Nat → ClassId} {s U : State} (hW : s.WarmedH U.vm) (h : dx_K D d s) : dx_K D d U := ⟨h.1.moved hW.alike, ⟨h.2.1.1.moved hW.alike, h.2.1.2.moved hW.alike⟩, fun t ht => va_Nw.warmM hW (h.2.2 t ht)⟩
def dx_C (l : Launch) (y : MethodName) (cc : ByteArray) (maxL : Nat) (rm : Room) (D : va_G) (d : Nat → ClassId) (As : List Value) (cell : va_E) {S : Type} (post : Nat → S → Prop) (w : S → va_W) (mc ms : Nat) : Prop :=
  ∀ (q sz : Nat), Met l y (Cond.code y cc maxL none :: lw_gd) rm (va_Pc (.ref q :: As) (fun U => U.heap.size = sz ∧ va_P D vwCl [(q, cell)] U.heap ∧ dx_K D d U)) (va_Qv (post q) (fun u t => va_P D vwCl (w u) t.heap ∧ va_D (va_A [(q, cell)] sz) (w u)) (va_A [(q, cell)] sz)) mc ms (va_A [(q, cell)] sz)
theorem dx_D1 {q : Nat} {cell : va_E} {sz : Nat} : va_D (va_A [(q, cell)] sz) [(q, cell)] := by
  refine ⟨fun i j p r hi hj _ => ?_, fun k r hk => va_A.in hk⟩
  have h1 : i < 1 := (List.getElem?_eq_some_iff.mp hi).1
  have h2 : j < 1 := (List.getElem?_eq_some_iff.mp hj).1
  omega
theorem dx_oc : Cond.code objectInit ⟨#[0xb1]⟩ 1 none ∈ lw_gd := List.mem_filter.mpr ⟨List.mem_of_getElem? (i := 116) rfl, rfl⟩
theorem dx_oi : Cond.instanceMethod objectInit ∈ lw_gd := lw_gd_of (k := 115) (by decide +kernel)
theorem dx_nd_of : ∀ l : List Nat, l.Nodup → va_nd l = true
  | [], _ => rfl
  | a :: l, h => by
    obtain ⟨h1, h2⟩ := List.nodup_cons.mp h
    simp only [va_nd, Bool.and_eq_true, decide_eq_true_eq]
    exact ⟨h1, dx_nd_of l h2⟩
theorem dx_nd (n : Nat) : va_nd (List.range n) = true := dx_nd_of _ List.nodup_range
theorem dx_insP1 {D : va_G} {cl : List vw_C} {f0 : Nat × va_E} {R W : va_W} {H : Heap} (h : va_P D cl ((f0 :: R) ++ W) H) : va_P D cl (f0 :: (W ++ R)) H := va_P.swap (a := [f0]) (b := R) (c := W) h
theorem dx_insD1 {A : Nat → Prop} {f0 : Nat × va_E} {R W : va_W} (h : va_D A ((f0 :: R) ++ W)) : va_D A (f0 :: (W ++ R)) := va_D.swap (a := [f0]) (b := R) (c := W) h
theorem dx_insP2 {D : va_G} {cl : List vw_C} {f0 f1 : Nat × va_E} {R W : va_W} {H : Heap} (h : va_P D cl ((f0 :: f1 :: R) ++ W) H) : va_P D cl (f0 :: f1 :: (W ++ R)) H := va_P.swap (a := [f0, f1]) (b := R) (c := W) h
theorem dx_insD2 {A : Nat → Prop} {f0 f1 : Nat × va_E} {R W : va_W} (h : va_D A ((f0 :: f1 :: R) ++ W)) : va_D A (f0 :: f1 :: (W ++ R)) := va_D.swap (a := [f0, f1]) (b := R) (c := W) h
theorem dx_insP3 {D : va_G} {cl : List vw_C} {f0 f1 f2 : Nat × va_E} {R W : va_W} {H : Heap} (h : va_P D cl ((f0 :: f1 :: f2 :: R) ++ W) H) : va_P D cl (f0 :: f1 :: f2 :: (W ++ R)) H := va_P.swap (a := [f0, f1, f2]) (b := R) (c := W) h
theorem dx_insD3 {A : Nat → Prop} {f0 f1 f2 : Nat × va_E} {R W : va_W} (h : va_D A ((f0 :: f1 :: f2 :: R) ++ W)) : va_D A (f0 :: f1 :: f2 :: (W ++ R)) := va_D.swap (a := [f0, f1, f2]) (b := R) (c := W) h
section Dx
variable {p : Program} {l : Launch} {e : Env} {R : Room} {s : State} {m : MethodId} {args : Array Value} {below : List Frame} {meth : Method} {c : Code} {H : Heap} {locs : List Loc} {cells slots : Nat} {Q : State → Prop}
variable {cc : ByteArray} {pc : Nat} {ls : Array Slot} {rest : List Value} {D : va_G} {d : Nat → ClassId} {A : Nat → Prop} {a : Nat} {ws : va_W} {H0 : Heap}
theorem dx_newa {atype : ArrayType} {ty : FieldType} {cA0 : ClassId} (t0 : Nat) (ht0 : (dx_tys d)[t0]? = some (cA0, ty)) (hra : ∀ c1 c2 : ClassId, va_RA s c1 ty → va_RA s c2 ty → c1 = c2) (hdv : defaultValue ty = .int 0) (hby : componentBytes ty ≤ 4) (hx : p.tables.exec = Jvm.exec) (hb : c.code = cc) (hts : ∀ w ∈ lw_gd, w.before args s = true) (harr : Cond.arrayClass (newarray.typeOf atype) ∈ lw_gd) (hty : newarray.typeOf atype = ty) (hK : dx_K D d s) (hP : va_P D vwCl ws H) (hD : va_D A ws) (hS : va_S A H0 H locs) (hA : ∀ q, H0.size ≤ q → A q)
    {n : Int32} {N k1 n1 : Nat} (hn : ¬ n < 0) (hN : n.toNatClampNeg = N) (hN2 : N ≤ 1000) (hk1 : cells + 1 = k1) (hn1 : slots + N = n1) (hcells : k1 ≤ R.cells) (hslots : n1 ≤ R.slots) (hdg : decode cc pc = .ok (.newarray atype, 2))
    (kk : ∀ (q : Nat) (H1 : Heap), va_P D vwCl (ws ++ [(q, .inl (cA0, N, .inl (fun _ => 0)))]) H1 → va_D A (ws ++ [(q, .inl (cA0, N, .inl (fun _ => 0)))]) → va_S A H0 H1 locs → W p l e R s m args below meth c H1 locs k1 n1 Q (F0 m (pc + 2) ls (.ref q :: rest))) : W p l e R s m args below meth c H locs cells slots Q (F0 m pc ls (.int n :: rest)) := by
  subst hk1
  subst hn1
  refine va_newa hx hb (hts _ harr) hty hK.1 hP hD hS hA (a0 := (N, .inl (fun _ => 0))) (fun cA => by rw [vp_cell_i, hdv]) hn hN (by have := Nat.mul_le_mul hN2 hby; omega) hcells hslots hdg (fun q cA H1 hK1 hP1 hD1 hS1 => ?_)
  have r1 : va_RA s cA ty := (hK1.2 5 (cA, ty) rfl).2
  have r2 : va_RA s cA0 ty := (hK.1.2 t0 (cA0, ty) ht0).2
  have ec := hra cA cA0 r1 r2
  subst ec
  exact kk q H1 hP1 hD1 hS1
theorem dx_newi (hx : p.tables.exec = Jvm.exec) (hb : c.code = cc) (hts : ∀ w ∈ lw_gd, w.before args s = true) (hK : dx_K D d s) (hP : va_P D vwCl ws H) (hD : va_D A ws) (hS : va_S A H0 H locs) (hA : ∀ q, H0.size ≤ q → A q)
    {n : Int32} {N k1 n1 : Nat} (hn : ¬ n < 0) (hN : n.toNatClampNeg = N) (hN2 : N ≤ 1000) (hk1 : cells + 1 = k1) (hn1 : slots + N = n1) (hcells : k1 ≤ R.cells) (hslots : n1 ≤ R.slots) (hdg : decode cc pc = .ok (.newarray .int, 2))
    (kk : ∀ (q : Nat) (H1 : Heap), va_P D vwCl (ws ++ [(q, .inl (d 1, N, .inl (fun _ => 0)))]) H1 → va_D A (ws ++ [(q, .inl (d 1, N, .inl (fun _ => 0)))]) → va_S A H0 H1 locs → W p l e R s m args below meth c H1 locs k1 n1 Q (F0 m (pc + 2) ls (.ref q :: rest))) : W p l e R s m args below meth c H locs cells slots Q (F0 m pc ls (.int n :: rest)) :=
  dx_newa (d := d) (ty := .int) 0 rfl (fun c1 c2 h1 h2 => Option.some.inj (Eq.trans (Eq.symm h1) h2)) rfl (by decide) hx hb hts (lw_gd_of (k := 258) (by decide +kernel)) rfl hK hP hD hS hA hn hN hN2 hk1 hn1 hcells hslots hdg kk
theorem dx_newb (hx : p.tables.exec = Jvm.exec) (hb : c.code = cc) (hts : ∀ w ∈ lw_gd, w.before args s = true) (hK : dx_K D d s) (hP : va_P D vwCl ws H) (hD : va_D A ws) (hS : va_S A H0 H locs) (hA : ∀ q, H0.size ≤ q → A q)
    {n : Int32} {N k1 n1 : Nat} (hn : ¬ n < 0) (hN : n.toNatClampNeg = N) (hN2 : N ≤ 1000) (hk1 : cells + 1 = k1) (hn1 : slots + N = n1) (hcells : k1 ≤ R.cells) (hslots : n1 ≤ R.slots) (hdg : decode cc pc = .ok (.newarray .byte, 2))
    (kk : ∀ (q : Nat) (H1 : Heap), va_P D vwCl (ws ++ [(q, .inl (d 2, N, .inl (fun _ => 0)))]) H1 → va_D A (ws ++ [(q, .inl (d 2, N, .inl (fun _ => 0)))]) → va_S A H0 H1 locs → W p l e R s m args below meth c H1 locs k1 n1 Q (F0 m (pc + 2) ls (.ref q :: rest))) : W p l e R s m args below meth c H locs cells slots Q (F0 m pc ls (.int n :: rest)) :=
  dx_newa (d := d) (ty := .byte) 1 rfl (fun c1 c2 h1 h2 => Option.some.inj (Eq.trans (Eq.symm h1) h2)) rfl (by decide) hx hb hts (lw_gd_of (k := 153) (by decide +kernel)) rfl hK hP hD hS hA hn hN hN2 hk1 hn1 hcells hslots hdg kk
theorem dx_newz (hx : p.tables.exec = Jvm.exec) (hb : c.code = cc) (hts : ∀ w ∈ lw_gd, w.before args s = true) (hK : dx_K D d s) (hP : va_P D vwCl ws H) (hD : va_D A ws) (hS : va_S A H0 H locs) (hA : ∀ q, H0.size ≤ q → A q)
    {n : Int32} {N k1 n1 : Nat} (hn : ¬ n < 0) (hN : n.toNatClampNeg = N) (hN2 : N ≤ 1000) (hk1 : cells + 1 = k1) (hn1 : slots + N = n1) (hcells : k1 ≤ R.cells) (hslots : n1 ≤ R.slots) (hdg : decode cc pc = .ok (.newarray .boolean, 2))
    (kk : ∀ (q : Nat) (H1 : Heap), va_P D vwCl (ws ++ [(q, .inl (d 3, N, .inl (fun _ => 0)))]) H1 → va_D A (ws ++ [(q, .inl (d 3, N, .inl (fun _ => 0)))]) → va_S A H0 H1 locs → W p l e R s m args below meth c H1 locs k1 n1 Q (F0 m (pc + 2) ls (.ref q :: rest))) : W p l e R s m args below meth c H locs cells slots Q (F0 m pc ls (.int n :: rest)) :=
  dx_newa (d := d) (ty := .boolean) 2 rfl (fun c1 c2 h1 h2 => Option.some.inj (Eq.trans (Eq.symm h1) h2)) rfl (by decide) hx hb hts (lw_gd_of (k := 1031) (by decide +kernel)) rfl hK hP hD hS hA hn hN hN2 hk1 hn1 hcells hslots hdg kk
theorem dx_newq {own C : String} {x0 : Nat} {cA0 : ClassId} (t0 : Nat) (ht0 : (dx_tys d)[t0]? = some (cA0, .object C)) (hao : va_AO C s) (hcl : Cond.classLink own x0 C ∈ lw_gd) (hown : s.vm.findClass own = some m.cls) (hx : p.tables.exec = Jvm.exec) (hb : c.code = cc) (hts : ∀ w ∈ lw_gd, w.before args s = true) (hK : dx_K D d s) (hP : va_P D vwCl ws H) (hD : va_D A ws) (hS : va_S A H0 H locs) (hA : ∀ q, H0.size ≤ q → A q)
    {n : Int32} {N k1 n1 : Nat} (hn : ¬ n < 0) (hN : n.toNatClampNeg = N) (hN2 : N ≤ 1000) (hk1 : cells + 1 = k1) (hn1 : slots + N = n1) (hcells : k1 ≤ R.cells) (hslots : n1 ≤ R.slots) (hdg : decode cc pc = .ok (.anewarray x0, 3))
    (kk : ∀ (q : Nat) (H1 : Heap), va_P D vwCl (ws ++ [(q, .inl (cA0, N, .inr (.inr (.inr (.inr (fun _ => none))))))]) H1 → va_D A (ws ++ [(q, .inl (cA0, N, .inr (.inr (.inr (.inr (fun _ => none))))))]) → va_S A H0 H1 locs → W p l e R s m args below meth c H1 locs k1 n1 Q (F0 m (pc + 3) ls (.ref q :: rest))) : W p l e R s m args below meth c H locs cells slots Q (F0 m pc ls (.int n :: rest)) := by
  subst hk1
  subst hn1
  refine va_newq hx hb hown (hts _ hcl) hao hK.1 hP hD hS hA hn hN (by omega) hcells hslots hdg (fun q cA H1 hK1 hP1 hD1 hS1 => ?_)
  obtain ⟨_, _, _, _, _, r1⟩ := (hK1.2 5 (cA, .object C) rfl).2
  obtain ⟨_, _, _, _, _, r2⟩ := (hK.1.2 t0 (cA0, .object C) ht0).2
  have ec : cA = cA0 := Option.some.inj (r1.symm.trans r2)
  subst ec
  exact kk q H1 hP1 hD1 hS1
/-- a new object of class ci -/
theorem dx_new {own : String} {x0 : Nat} (ci : Nat) (hci : ci < 9) {fs : List Value} (hfs : ∀ j, j < (mx_cl ci).2.2 → defaultValue (mx_tyf ci j) = vp_V fs j) (hcl : Cond.classLink own x0 (mx_cl ci).1 ∈ lw_gd) (hins : Cond.instantiable (mx_cl ci).1 (mx_cl ci).2.2 ∈ lw_gd) (hini : Cond.initialized (mx_cl ci).1 ∈ lw_gd) (hown : s.vm.findClass own = some m.cls) (hx : p.tables.exec = Jvm.exec) (hb : c.code = cc) (hts : ∀ w ∈ lw_gd, w.before args s = true) (hK : dx_K D d s) (hP : va_P D vwCl ws H) (hD : va_D A ws) (hS : va_S A H0 H locs) (hA : ∀ q, H0.size ≤ q → A q)
    {k1 n1 : Nat} (hk1 : cells + 1 = k1) (hn1 : slots + (mx_cl ci).2.2 = n1) (hcells : k1 ≤ R.cells) (hslots : n1 ≤ R.slots) (hdg : decode cc pc = .ok (.new x0, 3))
    (kk : ∀ (q : Nat) (H1 : Heap), va_P D vwCl (ws ++ [(q, .inr (ci, fs))]) H1 → va_D A (ws ++ [(q, .inr (ci, fs))]) → va_S A H0 H1 locs → W p l e R s m args below meth c H1 locs k1 n1 Q (F0 m (pc + 3) ls (.ref q :: rest))) : W p l e R s m args below meth c H locs cells slots Q (F0 m pc ls rest) := by
  subst hk1
  subst hn1
  exact va_new (C := (mx_cl ci).1) (T := (mx_cl ci).2.1) (N := (mx_cl ci).2.2) hx hb hts (mx_uw ci hci) (mx_tyf ci) (mx_ty_ok ci hci) hown (hts _ hcl) (hts _ hins) (hts _ hini) hK.1 hP hD hS hA (mx_cl_at hci) hfs hcells hslots hdg kk
/-- a final field of the class's own -/
theorem dx_putF {own : String} {x0 : Nat} (ci k : Nat) (hci : ci < 9) (hk : k < (mx_cl ci).2.2) (hlk : Cond.fieldLink own x0 ((mx_cl ci).2.1 k).1 ((mx_cl ci).2.1 k).2.1 ((mx_cl ci).2.1 k).2.2.1 ∈ lw_gd) (hfin : ((mx_cl ci).2.1 k).2.2.2 = true) (hdecl : ((mx_cl ci).2.1 k).1 = own) {v : Value} (hn : narrow (mx_tyf ci k) v = v) (hfit : fits (mx_tyf ci k) v = true) (hown : s.vm.findClass own = some m.cls) (hin : meth.name = "<init>") (hx : p.tables.exec = Jvm.exec) (hb : c.code = cc) (hts : ∀ w ∈ lw_gd, w.before args s = true) (hK : dx_K D d s) (hP : va_P D vwCl ws H) (hD : va_D A ws) (hS : va_S A H0 H locs) (q0 : Nat) {fs : List Value} (he : ws[q0]? = some (a, .inr (ci, fs))) (hl : k < fs.length) (hdg : decode cc pc = .ok (.putfield x0, 3))
    (kk : ∀ (H1 : Heap) (locs1 : List Loc), va_P D vwCl (ws.set q0 (a, .inr (ci, fs.set k v))) H1 → va_D A (ws.set q0 (a, .inr (ci, fs.set k v))) → va_S A H0 H1 locs1 → W p l e R s m args below meth c H1 locs1 cells slots Q (F0 m (pc + 3) ls rest)) : W p l e R s m args below meth c H locs cells slots Q (F0 m pc ls (v :: .ref a :: rest)) :=
  va_putF (C := (mx_cl ci).1) (T := (mx_cl ci).2.1) (N := (mx_cl ci).2.2) (ref := ((mx_cl ci).2.1 k).1) (ty := mx_tyf ci k) hx hb hts (mx_uw ci hci) (mx_tyf ci) (mx_ty_ok ci hci) (mx_nm_ok ci hci) hown hK.1 hP hD hS q0 he (mx_cl_at hci) k hk (hts _ hlk) (fun _ h => h) hfin hin hdecl (mx_ty_ok ci hci k hk) hn hfit hl hdg kk
theorem dx_put {own : String} {x0 : Nat} (ci k : Nat) (hci : ci < 9) (hk : k < (mx_cl ci).2.2) (hlk : Cond.fieldLink own x0 ((mx_cl ci).2.1 k).1 ((mx_cl ci).2.1 k).2.1 ((mx_cl ci).2.1 k).2.2.1 ∈ lw_gd) (hfin : ((mx_cl ci).2.1 k).2.2.2 = false) {v : Value} (hn : narrow (mx_tyf ci k) v = v) (hfit : fits (mx_tyf ci k) v = true) (hown : s.vm.findClass own = some m.cls) (hx : p.tables.exec = Jvm.exec) (hb : c.code = cc) (hts : ∀ w ∈ lw_gd, w.before args s = true) (hK : dx_K D d s) (hP : va_P D vwCl ws H) (hD : va_D A ws) (hS : va_S A H0 H locs) (q0 : Nat) {fs : List Value} (he : ws[q0]? = some (a, .inr (ci, fs))) (hl : k < fs.length) (hdg : decode cc pc = .ok (.putfield x0, 3))
    (kk : ∀ (H1 : Heap) (locs1 : List Loc), va_P D vwCl (ws.set q0 (a, .inr (ci, fs.set k v))) H1 → va_D A (ws.set q0 (a, .inr (ci, fs.set k v))) → va_S A H0 H1 locs1 → W p l e R s m args below meth c H1 locs1 cells slots Q (F0 m (pc + 3) ls rest)) : W p l e R s m args below meth c H locs cells slots Q (F0 m pc ls (v :: .ref a :: rest)) :=
  va_put (C := (mx_cl ci).1) (T := (mx_cl ci).2.1) (N := (mx_cl ci).2.2) (ref := ((mx_cl ci).2.1 k).1) (ty := mx_tyf ci k) hx hb hts (mx_uw ci hci) (mx_tyf ci) (mx_ty_ok ci hci) (mx_nm_ok ci hci) hown hK.1 hP hD hS q0 he (mx_cl_at hci) k hk (hts _ hlk) (fun _ h => h) hfin (mx_ty_ok ci hci k hk) hn hfit hl hdg kk
theorem dx_get {own : String} {x0 : Nat} (ci k : Nat) (hci : ci < 9) (hk : k < (mx_cl ci).2.2) (hlk : Cond.fieldLink own x0 ((mx_cl ci).2.1 k).1 ((mx_cl ci).2.1 k).2.1 ((mx_cl ci).2.1 k).2.2.1 ∈ lw_gd) (hown : s.vm.findClass own = some m.cls) (hx : p.tables.exec = Jvm.exec) (hb : c.code = cc) (hts : ∀ w ∈ lw_gd, w.before args s = true) (hK : dx_K D d s) (hP : va_P D vwCl ws H) (q0 : Nat) {fs : List Value} (he : ws[q0]? = some (a, .inr (ci, fs))) {v : Value} (hv : fs[k]? = some v) (hdg : decode cc pc = .ok (.getfield x0, 3))
    (kk : W p l e R s m args below meth c H locs cells slots Q (F0 m (pc + 3) ls (v :: rest))) : W p l e R s m args below meth c H locs cells slots Q (F0 m pc ls (.ref a :: rest)) :=
  va_get (C := (mx_cl ci).1) (T := (mx_cl ci).2.1) (N := (mx_cl ci).2.2) (ref := ((mx_cl ci).2.1 k).1) hx hb hts (mx_uw ci hci) hown hK.1 hP q0 he (mx_cl_at hci) k hk (hts _ hlk) (fun _ h => h) hv hdg kk
/-- Object's own constructor -/
theorem dx_obj {own : String} {x0 nL : Nat} (hlk : Cond.methodLink own x0 objectInit ∈ lw_gd) (hown : s.vm.findClass own = some m.cls) (hx : p.tables.exec = Jvm.exec) (hb : c.code = cc) (hts : ∀ w ∈ lw_gd, w.before args s = true) (hml : c.maxLocals = nL) (hls : ls.size = nL) (hfr : 1 ≤ R.frames) (hlo : 12 ≤ R.locals) (hdg : decode cc pc = .ok (.invokespecial x0, 3))
    (kk : W p l e R s m args below meth c H locs cells slots Q (F0 m (pc + 3) ls [])) : W p l e R s m args below meth c H locs cells slots Q (F0 m pc ls [.ref a]) := by
  refine W.objInit hx hb hown (hts _ hlk) (hts _ dx_oi) (hts _ dx_oc) rfl (by rw [hml]; exact hls) rfl hdg hfr ?_ ?_
  · show 2 * 0 + 0 + 12 ≤ R.locals
    omega
  · exact kk
/-- a constructor's call: the new cell is the last of the world -/
theorem dx_call {y : MethodName} {bytes : ByteArray} {maxL nL mc ms x0 : Nat} {rm : Room} {As st : List Value} {cell : va_E} {S : Type} {post : Nat → S → Prop} {w : S → va_W} {wr : va_W} {q : Nat} {own : String} (hM : dx_C l y bytes maxL rm D d As cell post w mc ms) (hl : Cond.methodLink own x0 y ∈ lw_gd ∨ va_Nw (.methodLinkNest own x0 y "RailOfHeads") s) (hcode : Cond.code y bytes maxL none ∈ lw_gd) (hini : Cond.initialized y.cls ∈ lw_gd) (hi : Cond.instanceMethod y ∈ lw_gd) (hy : y.name = "<init>") (hy2 : y.cls ≠ "java/lang/invoke/MethodHandle" ∧ y.cls ≠ "java/lang/invoke/VarHandle" ∧ (parseMethodDescriptor y.desc).map (fun d => d.parameters.length) = some As.length) (hrm : rm.cells = mc ∧ rm.slots = ms) (hR : rm.frames + 1 ≤ R.frames ∧ 8 + (maxL + 11) + rm.locals ≤ R.locals) (hown : s.vm.findClass own = some m.cls) (hx : p.tables.exec = Jvm.exec) (hb : c.code = cc) (hts : ∀ w ∈ lw_gd, w.before args s = true) (hml : c.maxLocals = nL) (hls : ls.size = nL) (hK : dx_K D d s) (hP : va_P D vwCl (wr ++ [(q, cell)]) H) (hD : va_D A (wr ++ [(q, cell)])) (hS : va_S A s.heap H locs) (hA : ∀ q, s.heap.size ≤ q → A q)
    {k1 n1 : Nat} (hk1 : cells + mc = k1) (hn1 : slots + ms = n1) (hcells : k1 ≤ R.cells) (hslots : n1 ≤ R.slots) (hst : st = As.reverse ++ .ref q :: rest) (hrest : (rest.map fun v => v.category).sum ≤ 8) (hdg : decode cc pc = .ok (.invokespecial x0, 3))
    (kk : ∀ (u : S) (H1 : Heap) (locs1 : List Loc), post q u → va_P D vwCl (wr ++ w u) H1 → va_D A (wr ++ w u) → va_S A s.heap H1 locs1 → W p l e R s m args below meth c H1 locs1 k1 n1 Q (F0 m (pc + 3) ls rest)) : W p l e R s m args below meth c H locs cells slots Q (F0 m pc ls st) := by
  subst hk1
  subst hn1
  have hC : [wr.length].map (fun i => (wr ++ [(q, cell)])[i]?) = [(q, cell)].map some := by simp
  have hPc : va_P D vwCl [(q, cell)] H := hP.sub [wr.length] (by simp)
  have hFc := va_free (wc := [(q, cell)]) hD hS hA [wr.length] hC
  have hg : GoodIn lw_gd (Cond.code y bytes maxL none :: lw_gd) := fun w hw => (List.mem_cons.mp hw).elim (fun e => e ▸ lw_gd_good _ hcode) (fun e => lw_gd_good _ e)
  have hpre : PreS s H (va_Pc (.ref q :: As) (fun U => U.heap.size = H.size ∧ va_P D vwCl [(q, cell)] U.heap ∧ dx_K D d U)) (.ref q :: As) := ⟨fun a U f mk z => ⟨z.1, z.2.1, z.2.2.1, z.2.2.2.same rfl⟩, fun U hU hW => ⟨rfl, by rw [hU], by rw [hU]; exact hPc, hK.warm hW⟩⟩
  have hrun : va_Run p l e R s m args below meth c H locs cells slots mc ms (F0 m pc ls st) rest (va_Qv (post q) (fun u t => va_P D vwCl (w u) t.heap ∧ va_D (va_A [(q, cell)] H.size) (w u)) (va_A [(q, cell)] H.size) (Value.ref q :: As).toArray) (va_A [(q, cell)] H.size) := by
    rcases hl with hl | hl
    · exact va_runI (g := F0 m pc ls st) (As := As) (rest := rest) (b := q) ⟨hx, hb, hml, hown, hts⟩ (hM q H.size) (cwI As.length hts hg rfl hrm.1 hrm.2 (hts _ hini) (hts _ hl) (hts _ hi) hy hy2 hR) hpre rfl rfl hls hst (lv_room hrest) hdg ⟨hcells, hslots⟩
    · exact va_runIN (g := F0 m pc ls st) (As := As) (rest := rest) (b := q) (host := "RailOfHeads") ⟨hx, hb, hml, hown, hts⟩ (hM q H.size) ⟨va_cnB As.length hts hg rfl hrm.1 hrm.2 hl (hts _ hini) hy2 hR, hy, hts _ hi⟩ hpre rfl rfl hls hst (lv_room hrest) hdg ⟨hcells, hslots⟩
  refine va_callv hrun hS (fun r _ h => hFc r h) hFc (fun u t H1 locs1 ht _ hw hB _ hk hS1 => ?_)
  obtain ⟨hP1, hD1⟩ := hB
  rw [ht] at hP1
  have hRs : (List.range wr.length).map (fun i => (wr ++ [(q, cell)])[i]?) = wr.map some := by
    apply List.ext_getElem?
    intro n
    rw [List.getElem?_map, List.getElem?_map]
    rcases Nat.lt_or_ge n wr.length with h | h
    · rw [List.getElem?_range h, Option.map_some, List.getElem?_append_left h, List.getElem?_eq_getElem h]
      rfl
    · rw [List.getElem?_eq_none (by rw [List.length_range]; exact h), List.getElem?_eq_none h]
      rfl
  have nd : ∀ n, va_nd (List.range n) = true := dx_nd
  obtain ⟨hP2, hD2⟩ := va_join (wr := wr) (w1 := w u) hP hD [wr.length] (List.range wr.length) hC hRs (nd _) (fun i h1 h2 => by
    have := List.mem_range.mp h1
    have := List.mem_singleton.mp h2
    omega) hk hFc hP1 hD1
  exact kk u H1 locs1 hw hP2 hD2 hS1
end Dx
