/-! ===== a small machine: what a method does, as a function over numbers; its soundness over the bytecode stands in a later part ===== -/
abbrev mx_V : Type := Int32 ⊕ Int64 ⊕ (Nat × Nat)
abbrev mx_I (x : Int32) : mx_V := Sum.inl x
abbrev mx_J (x : Int64) : mx_V := Sum.inr (Sum.inl x)
abbrev mx_R (k o : Nat) : mx_V := Sum.inr (Sum.inr (k, o))
abbrev mx_S : Type := Nat → Nat → Nat → Int32
abbrev mx_Loc : Type := List (Option mx_V)
abbrev mx_Op : Type := Nat × Int32 × Int64 × Nat × Nat × List Nat
abbrev mx_Rt : Type := Option mx_V × mx_S
def mx_up (σ : mx_S) (k o j : Nat) (v : Int32) : mx_S := fun k' o' j' => if k' = k ∧ o' = o ∧ j' = j then v else σ k' o' j'
def mx_cp (σ : mx_S) (k o k1 o1 sp dp n : Nat) : mx_S := fun k' o' j' => if k' = k1 ∧ o' = o1 then va_cpy (σ k o) (σ k1 o1) sp dp n j' else σ k' o' j'
def mx_g {α : Type} (fl : α) (i : Int32) (n : Nat) (f : Nat → α) : α := if i < 0 ∨ n ≤ i.toNatClampNeg then fl else f i.toNatClampNeg
def mx_d {α : Type} (fl : α) (y : Int32) (f : α) : α := if y = 0 then fl else f
def mx_z {α : Type} (fl : α) (b : Nat) (x : Int32) (f : α) : α := match Nat.ble x.toBitVec.toNat (match b with | 1 => 1 | 2 => 65535 | _ => 127) with
  | true => f
  | false => fl
def mx_w {α : Type} (s : mx_S) (f : mx_S → α) : α := f s
def mx_kp : List Nat → mx_Loc → mx_Loc
  | 1 :: ts, v :: l => v :: mx_kp ts l
  | _ :: ts, _ :: l => none :: mx_kp ts l
  | _, _ => []
def mx_c {α : Type} (σ : mx_S) (sp dp : Int32) (k o : Nat) (n : Int32) (k1 o1 : Nat) (fl : α) (f : mx_S → α) : α := if sp < 0 ∨ dp < 0 ∨ n < 0 ∨ mx_aN o < sp.toNatClampNeg + n.toNatClampNeg ∨ mx_aN o1 < dp.toNatClampNeg + n.toNatClampNeg then fl else f (mx_cp σ k o k1 o1 sp.toNatClampNeg dp.toNatClampNeg n.toNatClampNeg)
def mx_bI {α : Type} (fl : α) (r : Option mx_Rt) (f : Int32 → mx_S → α) : α := match r with
  | some (some (Sum.inl x), σ) => f x σ
  | _ => fl
def mx_bJ {α : Type} (fl : α) (r : Option mx_Rt) (f : Int64 → mx_S → α) : α := match r with
  | some (some (Sum.inr (Sum.inl x)), σ) => f x σ
  | _ => fl
def mx_bV {α : Type} (fl : α) (r : Option mx_Rt) (f : mx_S → α) : α := match r with
  | some (none, σ) => f σ
  | _ => fl
def mx_bin {α : Type} (b : Nat) (x y : Int32) (f : Int32 → α) : α := match b with
  | 0 => f (x + y)
  | 1 => f (x - y)
  | 2 => f (x * y)
  | 3 => f (x &&& y)
  | 4 => f (x ||| y)
  | 5 => f (x <<< (y &&& 31))
  | 6 => f (x >>> (y &&& 31))
  | _ => f (x.toUInt32 >>> (y.toUInt32 &&& Int32.toUInt32 31)).toInt32
def mx_div {α : Type} (b : Nat) (x y : Int32) (f : Int32 → α) : α := match b with
  | 0 => f (x / y)
  | _ => f (x - x / y * y)
def mx_un {α : Type} (b : Nat) (x : Int32) (f : Int32 → α) : α := match b with
  | 0 => f (-x)
  | 1 => f x.toInt8.toInt32
  | 2 => f x.toInt16.toInt32
  | _ => f (x.toUInt32 % 65536).toInt32
def mx_lb {α : Type} (b : Nat) (x y : Int64) (f : Int64 → α) : α := match b with
  | 0 => f (x + y)
  | 1 => f (x &&& y)
  | _ => f (x ||| y)
def mx_lsh {α : Type} (b : Nat) (x : Int64) (y : Int32) (f : Int64 → α) : α := match b with
  | 0 => f (x <<< (y.toInt64 &&& 63))
  | _ => f (x >>> (y.toInt64 &&& 63))
def mx_nr (b : Nat) (x : Int32) : Int32 := match b with
  | 0 => vp_nar .byte x
  | _ => vp_nar .boolean x
def mx_if {α : Type} (b : Nat) (x y : Int32) (t f : α) : α := match b with
  | 0 => if x = y then t else f
  | 1 => if x = y then f else t
  | 2 => if x < y then t else f
  | 3 => if y ≤ x then t else f
  | 4 => if y < x then t else f
  | _ => if x ≤ y then t else f
def mx_lo : mx_Loc → Nat → Option mx_V
  | [], _ => none
  | v :: _, 0 => v
  | _ :: l, n + 1 => mx_lo l n
def mx_st1 (loc : mx_Loc) (i : Nat) (v : mx_V) : mx_Loc := match i with
  | 0 => loc.set 0 (some v)
  | j + 1 => match mx_lo loc j with
    | some (Sum.inr (Sum.inl _)) => (loc.set j none).set (j + 1) (some v)
    | _ => loc.set (j + 1) (some v)
def mx_sw {α : Type} (x : Int32) (d : α) : Nat → List α → α
  | _, [] => d
  | k, t :: ts => if x = Int32.ofNat k then t else mx_sw x d (k + 1) ts
/-- the receiver is of its class, not much lies below the arguments -/
def mx_rc (q : Nat) (as : List mx_V) : Bool := match q with
  | 0 => true
  | _ => match as with
    | Sum.inr (Sum.inr (_, o)) :: _ => match Nat.beq q 10 with
      | true => Nat.beq o mx_oS
      | false => Nat.beq (mx_cO o) q
    | _ => false
def mx_wd : List mx_V → Nat
  | [] => 0
  | Sum.inr (Sum.inl _) :: as => mx_wd as + 2
  | Sum.inl _ :: as => mx_wd as + 1
  | Sum.inr (Sum.inr _) :: as => mx_wd as + 1
def mx_cg (b q n : Nat) (stk : List mx_V) : Bool := Nat.ble b stk.length && (Nat.ble (stk.drop b).length 4 && (Nat.ble (mx_wd (stk.take b).reverse) n && mx_rc q (stk.take b).reverse))
section Step
variable {α : Type} (kn : mx_Loc → List mx_V → mx_S → α) (kj : Nat → mx_Loc → List mx_V → mx_S → α) (kr : Option mx_V → mx_S → α) (kc : Nat → Nat → List mx_V → mx_Loc → List mx_V → mx_S → α) (kh : Nat → mx_Loc → mx_S → α) (fl : α)
def mx_getf (a b : Nat) (loc : mx_Loc) (stk : List mx_V) (σ : mx_S) : α := match stk with
  | Sum.inr (Sum.inr (k, o)) :: r => match Nat.beq (mx_cO o) (a + 1) with
    | true => match mx_fk o b with
      | 2 => match mx_pt k o b with
        | (k', o') => kn loc (Sum.inr (Sum.inr (k', o')) :: r) σ
      | 3 => match mx_pt k o b with
        | (k', o') => if σ k o b = 0 then fl else kn loc (Sum.inr (Sum.inr (k', o')) :: r) σ
      | _ => kn loc (Sum.inl (σ k o b) :: r) σ
    | false => fl
  | _ => fl
def mx_putf (a b : Nat) (loc : mx_Loc) (stk : List mx_V) (σ : mx_S) : α := match stk with
  | Sum.inl x :: Sum.inr (Sum.inr (k, o)) :: r => match Nat.beq (mx_cO o) (a + 1) with
    | true => match mx_fk o b with
      | 0 => mx_w (mx_up σ k o b x) (fun σ => kn loc r σ)
      | 1 => mx_z fl 1 x (mx_w (mx_up σ k o b x) (fun σ => kn loc r σ))
      | _ => fl
    | false => fl
  | Sum.inr (Sum.inr (k', o')) :: Sum.inr (Sum.inr (k, o)) :: r => match Nat.beq (mx_cO o) (a + 1) with
    | true => match mx_fk o b with
      | 3 => match Nat.beq (mx_pt k o b).1 k', Nat.beq (mx_pt k o b).2 o' with
        | true, true => mx_w (mx_up σ k o b 1) (fun σ => kn loc r σ)
        | _, _ => fl
      | _ => fl
    | false => fl
  | _ => fl
def mx_step (i : mx_Op) (loc : mx_Loc) (stk : List mx_V) (σ : mx_S) : α :=
  let im := i.2.1
  let jm := i.2.2.1
  let a := i.2.2.2.1
  let b := i.2.2.2.2.1
  let ts := i.2.2.2.2.2
  match i.1 with
  | 0 => match mx_lo loc a with
    | some (Sum.inl x) => kn loc (Sum.inl x :: stk) σ
    | _ => fl
  | 1 => match mx_lo loc a with
    | some (Sum.inr (Sum.inl x)) => kn loc (Sum.inr (Sum.inl x) :: stk) σ
    | _ => fl
  | 2 => match mx_lo loc a with
    | some (Sum.inr (Sum.inr (k, o))) => match Nat.beq o mx_oQ with
      | false => kn loc (Sum.inr (Sum.inr (k, o)) :: stk) σ
      | true => fl
    | _ => fl
  | 3 => match stk with
    | Sum.inl x :: r => kn (mx_st1 loc a (Sum.inl x)) r σ
    | _ => fl
  | 4 => match stk with
    | Sum.inr (Sum.inl x) :: r => kn ((mx_st1 loc a (Sum.inr (Sum.inl x))).set (a + 1) none) r σ
    | _ => fl
  | 5 => match stk with
    | Sum.inr (Sum.inr (k, o)) :: r => match Nat.beq o mx_oQ with
      | false => kn (mx_st1 loc a (Sum.inr (Sum.inr (k, o)))) r σ
      | true => fl
    | _ => fl
  | 6 => kn loc (Sum.inl im :: stk) σ
  | 7 => kn loc (Sum.inr (Sum.inl jm) :: stk) σ
  | 8 => match stk with
    | Sum.inl y :: Sum.inl x :: r => mx_bin b x y (fun z => kn loc (Sum.inl z :: r) σ)
    | _ => fl
  | 9 => match stk with
    | Sum.inl y :: Sum.inl x :: r => mx_d fl y (mx_div b x y (fun z => kn loc (Sum.inl z :: r) σ))
    | _ => fl
  | 10 => match stk with
    | Sum.inl x :: r => mx_un b x (fun z => kn loc (Sum.inl z :: r) σ)
    | _ => fl
  | 11 => match stk with
    | Sum.inr (Sum.inl y) :: Sum.inr (Sum.inl x) :: r => mx_lb b x y (fun z => kn loc (Sum.inr (Sum.inl z) :: r) σ)
    | _ => fl
  | 12 => match stk with
    | Sum.inl y :: Sum.inr (Sum.inl x) :: r => mx_lsh b x y (fun z => kn loc (Sum.inr (Sum.inl z) :: r) σ)
    | _ => fl
  | 13 => match stk with
    | Sum.inr (Sum.inl y) :: Sum.inr (Sum.inl x) :: r => kn loc (Sum.inl (lg_cmp x y) :: r) σ
    | _ => fl
  | 14 => match stk with
    | Sum.inl x :: r => kn loc (Sum.inr (Sum.inl x.toInt64) :: r) σ
    | _ => fl
  | 15 => match stk with
    | Sum.inr (Sum.inl x) :: r => kn loc (Sum.inl x.toInt32 :: r) σ
    | _ => fl
  | 16 => match mx_lo loc a with
    | some (Sum.inl x) => kn (mx_st1 loc a (Sum.inl (x + im))) stk σ
    | _ => fl
  | 17 => match stk with
    | Sum.inl x :: r => kn loc (Sum.inl x :: Sum.inl x :: r) σ
    | Sum.inr (Sum.inr q) :: r => kn loc (Sum.inr (Sum.inr q) :: Sum.inr (Sum.inr q) :: r) σ
    | _ => fl
  | 18 => match stk with
    | Sum.inl x :: Sum.inr (Sum.inr q) :: r => kn loc (Sum.inl x :: Sum.inr (Sum.inr q) :: Sum.inl x :: Sum.inr (Sum.inr q) :: r) σ
    | _ => fl
  | 19 => match stk with
    | Sum.inl x :: r => mx_if b x 0 (kj a loc r σ) (kn loc r σ)
    | _ => fl
  | 20 => match stk with
    | Sum.inl y :: Sum.inl x :: r => mx_if b x y (kj a loc r σ) (kn loc r σ)
    | _ => fl
  | 21 => kj a loc stk σ
  | 22 => match stk with
    | Sum.inl x :: r => mx_sw x (kj a loc r σ) b (ts.map fun t => kj t loc r σ)
    | _ => fl
  | 23 => mx_getf kn fl a b loc stk σ
  | 24 => mx_putf kn fl a b loc stk σ
  | 25 => match stk with
    | Sum.inl i :: Sum.inr (Sum.inr (k, o)) :: r => match Nat.beq (mx_aT o) 1 with
      | true => mx_g fl i (mx_aN o) (fun j => kn loc (Sum.inl (σ k o j) :: r) σ)
      | false => fl
    | _ => fl
  | 26 => match stk with
    | Sum.inl x :: Sum.inl i :: Sum.inr (Sum.inr (k, o)) :: r => match Nat.beq (mx_aT o) 1 with
      | true => mx_g fl i (mx_aN o) (fun j => mx_w (mx_up σ k o j x) (fun σ => kn loc r σ))
      | false => fl
    | _ => fl
  | 27 => match stk with
    | Sum.inl i :: Sum.inr (Sum.inr (k, o)) :: r => match Nat.beq (mx_aT o) (b + 2) with
      | true => mx_g fl i (mx_aN o) (fun j => kn loc (Sum.inl (σ k o j) :: r) σ)
      | false => fl
    | _ => fl
  | 28 => match stk with
    | Sum.inl x :: Sum.inl i :: Sum.inr (Sum.inr (k, o)) :: r => match Nat.beq (mx_aT o) (b + 2) with
      | true => mx_g fl i (mx_aN o) (fun j => mx_w (mx_up σ k o j (mx_nr b x)) (fun σ => kn loc r σ))
      | false => fl
    | _ => fl
  | 29 => match stk with
    | Sum.inl i :: Sum.inr (Sum.inr (_, o)) :: r => match Nat.beq (mx_aT o) (b + 4) with
      | true => mx_g fl i (mx_aN o) (fun j => match mx_rA o j with
        | (k', o') => kn loc (Sum.inr (Sum.inr (k', o')) :: r) σ)
      | false => fl
    | _ => fl
  | 30 => match stk with
    | Sum.inr (Sum.inr (_, o)) :: r => match Nat.beq (mx_aT o) 1 with
      | true => kn loc (Sum.inl (Int32.ofNat (mx_aN o)) :: r) σ
      | false => fl
    | _ => fl
  | 31 => match mx_cg b (mx_nth ts 1) (mx_nth ts 2) stk with
    | true => kc a (mx_nth ts 0) (stk.take b).reverse loc (stk.drop b) σ
    | false => fl
  | 32 => match stk with
    | [Sum.inl x] => match b with
      | 0 => kr (some (Sum.inl x)) σ
      | _ => mx_z fl b x (kr (some (Sum.inl x)) σ)
    | _ => fl
  | 33 => match stk with
    | [Sum.inr (Sum.inl x)] => kr (some (Sum.inr (Sum.inl x))) σ
    | _ => fl
  | 34 => match stk with
    | [] => kr none σ
    | _ => fl
  | 35 => kn loc (Sum.inr (Sum.inr (a, mx_oS)) :: stk) σ
  | 36 => match stk with
    | Sum.inl n :: Sum.inl dp :: Sum.inr (Sum.inr (k1, o1)) :: Sum.inl sp :: Sum.inr (Sum.inr (k, o)) :: r => match Nat.beq (mx_aT o) 1, Nat.beq (mx_aT o1) 1 with
      | true, true => match Nat.ble r.length 4 with
        | true => mx_c σ sp dp k o n k1 o1 fl (fun σ => kn loc r σ)
        | false => fl
      | _, _ => fl
    | _ => fl
  | 37 => kn loc (Sum.inl 1 :: stk) σ
  | 38 => kn loc (Sum.inr (Sum.inr (0, mx_oQ)) :: stk) σ
  | 39 => match stk with
    | Sum.inr (Sum.inr (k, o)) :: r => match Nat.beq o mx_oS with
      | true => match b with
        | 0 => kn loc (Sum.inr (Sum.inr (k, mx_oB)) :: r) σ
        | _ => kn loc (Sum.inl 0 :: r) σ
      | false => fl
    | _ => fl
  | 40 => match stk with
    | Sum.inr (Sum.inr (k, o)) :: r => match Nat.beq o mx_oB with
      | true => kn loc (Sum.inl (Int32.ofNat (mx_sN k)) :: r) σ
      | false => fl
    | _ => fl
  | 41 => match stk with
    | Sum.inl i :: Sum.inr (Sum.inr (k, o)) :: r => match Nat.beq o mx_oB with
      | true => mx_g fl i (mx_sN k) (fun j => kn loc (Sum.inl (mx_sB k j) :: r) σ)
      | false => fl
    | _ => fl
  | 42 => match stk with
    | Sum.inl _ :: r => kn loc r σ
    | _ => fl
  | 43 => match stk with
    | Sum.inl i :: Sum.inr (Sum.inr (0, o)) :: r => match Nat.beq o mx_oX with
      | true => mx_g fl i (σ 0 mx_oX 0).toNatClampNeg (fun j => kn loc (Sum.inl (σ 1 mx_oX j) :: r) σ)
      | false => fl
    | _ => fl
  | 44 => match stk with
    | Sum.inr (Sum.inr (0, o)) :: r => match Nat.beq o mx_oX with
      | true => kn loc (Sum.inl (σ 0 mx_oX 0) :: r) σ
      | false => fl
    | _ => fl
  | 45 => match stk with
    | [] => kh a (mx_kp ts loc) σ
    | _ => fl
  | 46 => match stk with
    | Sum.inl y :: Sum.inl x :: r => match Nat.ble r.length 4 with
      | true => match b with
        | 0 => kn loc (Sum.inl (if y < x then y else x) :: r) σ
        | _ => kn loc (Sum.inl (if x < y then y else x) :: r) σ
      | false => fl
    | _ => fl
  | 47 => match stk with
    | Sum.inl x :: r => match Nat.ble r.length 4 with
      | true => kn loc (Sum.inl (if 0 ≤ x then x else 0 - x) :: r) σ
      | false => fl
    | _ => fl
  | _ => fl
end Step
def mx_run (E : Nat → List mx_V → mx_S → Option mx_Rt) (P : List mx_Op) (K : Nat → mx_Loc → mx_S → Option mx_Rt) : Nat → List mx_Op → mx_Loc → List mx_V → mx_S → Option mx_Rt
  | 0, _, _, _, _ => none
  | _ + 1, [], _, _, _ => none
  | n + 1, i :: c, loc, stk, σ => mx_step (fun l s σ => mx_run E P K n c l s σ) (fun t l s σ => mx_run E P K n (P.drop t) l s σ) (fun v σ => some (v, σ)) (fun y rk as l s σ => match rk with
      | 0 => mx_bV none (E y as σ) (fun σ => mx_run E P K n c l s σ)
      | 1 => mx_bI none (E y as σ) (fun x σ => mx_run E P K n c l (Sum.inl x :: s) σ)
      | _ => mx_bJ none (E y as σ) (fun x σ => mx_run E P K n c l (Sum.inr (Sum.inl x) :: s) σ)) K none i loc stk σ
section Steps
variable {α : Type} (kn : mx_Loc → List mx_V → mx_S → α) (kj : Nat → mx_Loc → List mx_V → mx_S → α) (kr : Option mx_V → mx_S → α) (kc : Nat → Nat → List mx_V → mx_Loc → List mx_V → mx_S → α) (kh : Nat → mx_Loc → mx_S → α) (fl : α) (im : Int32) (jm : Int64) (a b : Nat) (ts : List Nat) (loc : mx_Loc) (stk : List mx_V) (σ : mx_S)
theorem mx_s0 : mx_step kn kj kr kc kh fl (0, im, jm, a, b, ts) loc stk σ = (match mx_lo loc a with
    | some (Sum.inl x) => kn loc (Sum.inl x :: stk) σ
    | _ => fl) := rfl
theorem mx_s1 : mx_step kn kj kr kc kh fl (1, im, jm, a, b, ts) loc stk σ = (match mx_lo loc a with
    | some (Sum.inr (Sum.inl x)) => kn loc (Sum.inr (Sum.inl x) :: stk) σ
    | _ => fl) := rfl
theorem mx_s2 : mx_step kn kj kr kc kh fl (2, im, jm, a, b, ts) loc stk σ = (match mx_lo loc a with
    | some (Sum.inr (Sum.inr (k, o))) => match Nat.beq o mx_oQ with
      | false => kn loc (Sum.inr (Sum.inr (k, o)) :: stk) σ
      | true => fl
    | _ => fl) := rfl
theorem mx_s3 : mx_step kn kj kr kc kh fl (3, im, jm, a, b, ts) loc stk σ = (match stk with
    | Sum.inl x :: r => kn (mx_st1 loc a (Sum.inl x)) r σ
    | _ => fl) := rfl
theorem mx_s4 : mx_step kn kj kr kc kh fl (4, im, jm, a, b, ts) loc stk σ = (match stk with
    | Sum.inr (Sum.inl x) :: r => kn ((mx_st1 loc a (Sum.inr (Sum.inl x))).set (a + 1) none) r σ
    | _ => fl) := rfl
theorem mx_s5 : mx_step kn kj kr kc kh fl (5, im, jm, a, b, ts) loc stk σ = (match stk with
    | Sum.inr (Sum.inr (k, o)) :: r => match Nat.beq o mx_oQ with
      | false => kn (mx_st1 loc a (Sum.inr (Sum.inr (k, o)))) r σ
      | true => fl
    | _ => fl) := rfl
theorem mx_s6 : mx_step kn kj kr kc kh fl (6, im, jm, a, b, ts) loc stk σ = (kn loc (Sum.inl im :: stk) σ) := rfl
theorem mx_s7 : mx_step kn kj kr kc kh fl (7, im, jm, a, b, ts) loc stk σ = (kn loc (Sum.inr (Sum.inl jm) :: stk) σ) := rfl
theorem mx_s8 : mx_step kn kj kr kc kh fl (8, im, jm, a, b, ts) loc stk σ = (match stk with
    | Sum.inl y :: Sum.inl x :: r => mx_bin b x y (fun z => kn loc (Sum.inl z :: r) σ)
    | _ => fl) := rfl
theorem mx_s9 : mx_step kn kj kr kc kh fl (9, im, jm, a, b, ts) loc stk σ = (match stk with
    | Sum.inl y :: Sum.inl x :: r => mx_d fl y (mx_div b x y (fun z => kn loc (Sum.inl z :: r) σ))
    | _ => fl) := rfl
theorem mx_s10 : mx_step kn kj kr kc kh fl (10, im, jm, a, b, ts) loc stk σ = (match stk with
    | Sum.inl x :: r => mx_un b x (fun z => kn loc (Sum.inl z :: r) σ)
    | _ => fl) := rfl
theorem mx_s11 : mx_step kn kj kr kc kh fl (11, im, jm, a, b, ts) loc stk σ = (match stk with
    | Sum.inr (Sum.inl y) :: Sum.inr (Sum.inl x) :: r => mx_lb b x y (fun z => kn loc (Sum.inr (Sum.inl z) :: r) σ)
    | _ => fl) := rfl
theorem mx_s12 : mx_step kn kj kr kc kh fl (12, im, jm, a, b, ts) loc stk σ = (match stk with
    | Sum.inl y :: Sum.inr (Sum.inl x) :: r => mx_lsh b x y (fun z => kn loc (Sum.inr (Sum.inl z) :: r) σ)
    | _ => fl) := rfl
theorem mx_s13 : mx_step kn kj kr kc kh fl (13, im, jm, a, b, ts) loc stk σ = (match stk with
    | Sum.inr (Sum.inl y) :: Sum.inr (Sum.inl x) :: r => kn loc (Sum.inl (lg_cmp x y) :: r) σ
    | _ => fl) := rfl
theorem mx_s14 : mx_step kn kj kr kc kh fl (14, im, jm, a, b, ts) loc stk σ = (match stk with
    | Sum.inl x :: r => kn loc (Sum.inr (Sum.inl x.toInt64) :: r) σ
    | _ => fl) := rfl
theorem mx_s15 : mx_step kn kj kr kc kh fl (15, im, jm, a, b, ts) loc stk σ = (match stk with
    | Sum.inr (Sum.inl x) :: r => kn loc (Sum.inl x.toInt32 :: r) σ
    | _ => fl) := rfl
theorem mx_s16 : mx_step kn kj kr kc kh fl (16, im, jm, a, b, ts) loc stk σ = (match mx_lo loc a with
    | some (Sum.inl x) => kn (mx_st1 loc a (Sum.inl (x + im))) stk σ
    | _ => fl) := rfl
theorem mx_s17 : mx_step kn kj kr kc kh fl (17, im, jm, a, b, ts) loc stk σ = (match stk with
    | Sum.inl x :: r => kn loc (Sum.inl x :: Sum.inl x :: r) σ
    | Sum.inr (Sum.inr q) :: r => kn loc (Sum.inr (Sum.inr q) :: Sum.inr (Sum.inr q) :: r) σ
    | _ => fl) := rfl
theorem mx_s18 : mx_step kn kj kr kc kh fl (18, im, jm, a, b, ts) loc stk σ = (match stk with
    | Sum.inl x :: Sum.inr (Sum.inr q) :: r => kn loc (Sum.inl x :: Sum.inr (Sum.inr q) :: Sum.inl x :: Sum.inr (Sum.inr q) :: r) σ
    | _ => fl) := rfl
theorem mx_s19 : mx_step kn kj kr kc kh fl (19, im, jm, a, b, ts) loc stk σ = (match stk with
    | Sum.inl x :: r => mx_if b x 0 (kj a loc r σ) (kn loc r σ)
    | _ => fl) := rfl
theorem mx_s20 : mx_step kn kj kr kc kh fl (20, im, jm, a, b, ts) loc stk σ = (match stk with
    | Sum.inl y :: Sum.inl x :: r => mx_if b x y (kj a loc r σ) (kn loc r σ)
    | _ => fl) := rfl
theorem mx_s21 : mx_step kn kj kr kc kh fl (21, im, jm, a, b, ts) loc stk σ = (kj a loc stk σ) := rfl
theorem mx_s22 : mx_step kn kj kr kc kh fl (22, im, jm, a, b, ts) loc stk σ = (match stk with
    | Sum.inl x :: r => mx_sw x (kj a loc r σ) b (ts.map fun t => kj t loc r σ)
    | _ => fl) := rfl
theorem mx_s23 : mx_step kn kj kr kc kh fl (23, im, jm, a, b, ts) loc stk σ = (mx_getf kn fl a b loc stk σ) := rfl
theorem mx_s24 : mx_step kn kj kr kc kh fl (24, im, jm, a, b, ts) loc stk σ = (mx_putf kn fl a b loc stk σ) := rfl
theorem mx_s25 : mx_step kn kj kr kc kh fl (25, im, jm, a, b, ts) loc stk σ = (match stk with
    | Sum.inl i :: Sum.inr (Sum.inr (k, o)) :: r => match Nat.beq (mx_aT o) 1 with
      | true => mx_g fl i (mx_aN o) (fun j => kn loc (Sum.inl (σ k o j) :: r) σ)
      | false => fl
    | _ => fl) := rfl
theorem mx_s26 : mx_step kn kj kr kc kh fl (26, im, jm, a, b, ts) loc stk σ = (match stk with
    | Sum.inl x :: Sum.inl i :: Sum.inr (Sum.inr (k, o)) :: r => match Nat.beq (mx_aT o) 1 with
      | true => mx_g fl i (mx_aN o) (fun j => mx_w (mx_up σ k o j x) (fun σ => kn loc r σ))
      | false => fl
    | _ => fl) := rfl
theorem mx_s27 : mx_step kn kj kr kc kh fl (27, im, jm, a, b, ts) loc stk σ = (match stk with
    | Sum.inl i :: Sum.inr (Sum.inr (k, o)) :: r => match Nat.beq (mx_aT o) (b + 2) with
      | true => mx_g fl i (mx_aN o) (fun j => kn loc (Sum.inl (σ k o j) :: r) σ)
      | false => fl
    | _ => fl) := rfl
theorem mx_s28 : mx_step kn kj kr kc kh fl (28, im, jm, a, b, ts) loc stk σ = (match stk with
    | Sum.inl x :: Sum.inl i :: Sum.inr (Sum.inr (k, o)) :: r => match Nat.beq (mx_aT o) (b + 2) with
      | true => mx_g fl i (mx_aN o) (fun j => mx_w (mx_up σ k o j (mx_nr b x)) (fun σ => kn loc r σ))
      | false => fl
    | _ => fl) := rfl
theorem mx_s29 : mx_step kn kj kr kc kh fl (29, im, jm, a, b, ts) loc stk σ = (match stk with
    | Sum.inl i :: Sum.inr (Sum.inr (_, o)) :: r => match Nat.beq (mx_aT o) (b + 4) with
      | true => mx_g fl i (mx_aN o) (fun j => match mx_rA o j with
        | (k', o') => kn loc (Sum.inr (Sum.inr (k', o')) :: r) σ)
      | false => fl
    | _ => fl) := rfl
theorem mx_s30 : mx_step kn kj kr kc kh fl (30, im, jm, a, b, ts) loc stk σ = (match stk with
    | Sum.inr (Sum.inr (_, o)) :: r => match Nat.beq (mx_aT o) 1 with
      | true => kn loc (Sum.inl (Int32.ofNat (mx_aN o)) :: r) σ
      | false => fl
    | _ => fl) := rfl
theorem mx_s31 : mx_step kn kj kr kc kh fl (31, im, jm, a, b, ts) loc stk σ = (match mx_cg b (mx_nth ts 1) (mx_nth ts 2) stk with
    | true => kc a (mx_nth ts 0) (stk.take b).reverse loc (stk.drop b) σ
    | false => fl) := rfl
theorem mx_s32 : mx_step kn kj kr kc kh fl (32, im, jm, a, b, ts) loc stk σ = (match stk with
    | [Sum.inl x] => match b with
      | 0 => kr (some (Sum.inl x)) σ
      | _ => mx_z fl b x (kr (some (Sum.inl x)) σ)
    | _ => fl) := rfl
theorem mx_s33 : mx_step kn kj kr kc kh fl (33, im, jm, a, b, ts) loc stk σ = (match stk with
    | [Sum.inr (Sum.inl x)] => kr (some (Sum.inr (Sum.inl x))) σ
    | _ => fl) := rfl
theorem mx_s34 : mx_step kn kj kr kc kh fl (34, im, jm, a, b, ts) loc stk σ = (match stk with
    | [] => kr none σ
    | _ => fl) := rfl
theorem mx_s35 : mx_step kn kj kr kc kh fl (35, im, jm, a, b, ts) loc stk σ = (kn loc (Sum.inr (Sum.inr (a, mx_oS)) :: stk) σ) := rfl
theorem mx_s36 : mx_step kn kj kr kc kh fl (36, im, jm, a, b, ts) loc stk σ = (match stk with
    | Sum.inl n :: Sum.inl dp :: Sum.inr (Sum.inr (k1, o1)) :: Sum.inl sp :: Sum.inr (Sum.inr (k, o)) :: r => match Nat.beq (mx_aT o) 1, Nat.beq (mx_aT o1) 1 with
      | true, true => match Nat.ble r.length 4 with
        | true => mx_c σ sp dp k o n k1 o1 fl (fun σ => kn loc r σ)
        | false => fl
      | _, _ => fl
    | _ => fl) := rfl
theorem mx_s37 : mx_step kn kj kr kc kh fl (37, im, jm, a, b, ts) loc stk σ = (kn loc (Sum.inl 1 :: stk) σ) := rfl
theorem mx_s38 : mx_step kn kj kr kc kh fl (38, im, jm, a, b, ts) loc stk σ = (kn loc (Sum.inr (Sum.inr (0, mx_oQ)) :: stk) σ) := rfl
theorem mx_s39 : mx_step kn kj kr kc kh fl (39, im, jm, a, b, ts) loc stk σ = (match stk with
    | Sum.inr (Sum.inr (k, o)) :: r => match Nat.beq o mx_oS with
      | true => match b with
        | 0 => kn loc (Sum.inr (Sum.inr (k, mx_oB)) :: r) σ
        | _ => kn loc (Sum.inl 0 :: r) σ
      | false => fl
    | _ => fl) := rfl
theorem mx_s40 : mx_step kn kj kr kc kh fl (40, im, jm, a, b, ts) loc stk σ = (match stk with
    | Sum.inr (Sum.inr (k, o)) :: r => match Nat.beq o mx_oB with
      | true => kn loc (Sum.inl (Int32.ofNat (mx_sN k)) :: r) σ
      | false => fl
    | _ => fl) := rfl
theorem mx_s41 : mx_step kn kj kr kc kh fl (41, im, jm, a, b, ts) loc stk σ = (match stk with
    | Sum.inl i :: Sum.inr (Sum.inr (k, o)) :: r => match Nat.beq o mx_oB with
      | true => mx_g fl i (mx_sN k) (fun j => kn loc (Sum.inl (mx_sB k j) :: r) σ)
      | false => fl
    | _ => fl) := rfl
theorem mx_s42 : mx_step kn kj kr kc kh fl (42, im, jm, a, b, ts) loc stk σ = (match stk with
    | Sum.inl _ :: r => kn loc r σ
    | _ => fl) := rfl
theorem mx_s43 : mx_step kn kj kr kc kh fl (43, im, jm, a, b, ts) loc stk σ = (match stk with
    | Sum.inl i :: Sum.inr (Sum.inr (0, o)) :: r => match Nat.beq o mx_oX with
      | true => mx_g fl i (σ 0 mx_oX 0).toNatClampNeg (fun j => kn loc (Sum.inl (σ 1 mx_oX j) :: r) σ)
      | false => fl
    | _ => fl) := rfl
theorem mx_s44 : mx_step kn kj kr kc kh fl (44, im, jm, a, b, ts) loc stk σ = (match stk with
    | Sum.inr (Sum.inr (0, o)) :: r => match Nat.beq o mx_oX with
      | true => kn loc (Sum.inl (σ 0 mx_oX 0) :: r) σ
      | false => fl
    | _ => fl) := rfl
theorem mx_s45 : mx_step kn kj kr kc kh fl (45, im, jm, a, b, ts) loc stk σ = (match stk with
    | [] => kh a (mx_kp ts loc) σ
    | _ => fl) := rfl
theorem mx_s46 : mx_step kn kj kr kc kh fl (46, im, jm, a, b, ts) loc stk σ = (match stk with
    | Sum.inl y :: Sum.inl x :: r => match Nat.ble r.length 4 with
      | true => match b with
        | 0 => kn loc (Sum.inl (if y < x then y else x) :: r) σ
        | _ => kn loc (Sum.inl (if x < y then y else x) :: r) σ
      | false => fl
    | _ => fl) := rfl
theorem mx_s47 : mx_step kn kj kr kc kh fl (47, im, jm, a, b, ts) loc stk σ = (match stk with
    | Sum.inl x :: r => match Nat.ble r.length 4 with
      | true => kn loc (Sum.inl (if 0 ≤ x then x else 0 - x) :: r) σ
      | false => fl
    | _ => fl) := rfl
end Steps
