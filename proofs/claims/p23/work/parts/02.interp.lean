/-! AN INTERPRETER over the class and its reference: cells are named by (kind, a, b, c); a value is an int or a name or null; a memory gives each cell's places, and how many cells have been made. -/
abbrev zx_H : Type := Nat × Nat × Nat × Nat
abbrev zx_V : Type := Int32 ⊕ Option zx_H
abbrev zx_F : Type := zx_H → Nat → zx_V
abbrev zx_M : Type := zx_F × Nat
abbrev zx_L : Type := List (Option zx_V)
abbrev zx_S : Type := Nat × zx_L × List zx_V × zx_M
abbrev zx_X : Type := Nat × (Nat → Int32)
abbrev zx_I : Type := Nat × Instr × Nat × Nat × Int32 × List Nat
abbrev zx_O : Type := Option zx_V × zx_M
/-- what the cells of a kind are: 1 objects (class, fields), 2 arrays (0 of int, 1 of int rows, 2.. of objects; length) -/
def zx_kd : Nat → Nat × Nat × Nat
  | 0 => (1, 10, 8) | 1 => (1, 2, 12) | 2 => (2, 2, 8) | 3 => (1, 7, 3) | 4 => (2, 3, 7) | 5 => (1, 5, 3) | 6 => (2, 4, 10) | 7 => (1, 9, 17)
  | 8 => (2, 5, 6) | 9 => (1, 6, 4) | 10 => (2, 0, 10) | 11 => (2, 0, 4) | 12 => (2, 1, 2) | 13 => (2, 0, 8) | 14 => (1, 8, 5) | 15 => (2, 0, 60)
  | 16 => (2, 6, 20) | 17 => (1, 1, 12) | 18 => (2, 0, 7) | 19 => (1, 4, 2) | 20 => (2, 0, 3) | 21 => (1, 0, 2) | 22 => (1, 3, 4) | 23 => (2, 1, 20)
  | 24 => (2, 0, 8) | 25 => (1, 11, 19) | 26 => (2, 0, 640) | 27 => (2, 0, 10) | 28 => (2, 0, 60) | 29 => (2, 0, 640) | 30 => (2, 0, 8) | 31 => (2, 0, 640)
  | 32 => (2, 0, 640) | _ => (0, 0, 0)
/-- which fields of a class are references -/
def zx_rs : Nat → List Nat
  | 1 => [10] | 2 => [6, 7, 8, 9, 10] | 3 => [3] | 4 => [1] | 8 => [0, 2] | 9 => [15, 16] | 10 => [0, 1, 2, 3, 4, 5, 6] | 11 => [0, 1, 3, 9, 10, 16, 17] | _ => []
def zx_ir (k j : Nat) : Bool := match zx_kd k with
  | (1, c, _) => (zx_rs c).contains j
  | (2, t, _) => !(Nat.beq t 0)
  | _ => false
/-- the class of the objects in an array of references -/
def zx_ac : Nat → Nat
  | 2 => 7 | 3 => 5 | 4 => 9 | 5 => 6 | 6 => 1 | _ => 99
/-- the order in which the cells are made -/
def zx_sl (l r : Nat) : zx_H :=
  if r = 0 then (1, l, 0, 0) else if r = 1 then (2, l, 0, 0) else if r = 2 then (4, l, 0, 0) else if r = 3 then (6, l, 0, 0) else if r = 4 then (8, l, 0, 0) else if r = 5 then (10, l, 0, 0)
  else if r < 14 then (3, l, r - 6, 0) else if r < 21 then (5, l, r - 14, 0) else if r < 27 then (9, l, r - 21, 0)
  else if (r - 27) % 5 = 0 then (7, l, (r - 27) / 5, 0) else if (r - 27) % 5 = 1 then (11, l, (r - 27) / 5, 0) else if (r - 27) % 5 = 2 then (12, l, (r - 27) / 5, 0) else (13, l, (r - 27) / 5, (r - 27) % 5 - 3)
def zx_seq (k : Nat) : zx_H :=
  if k = 0 then (0, 0, 0, 0) else if k = 1 then (14, 0, 0, 0) else if k = 2 then (15, 0, 0, 0) else if k = 3 then (16, 0, 0, 0)
  else if k < 44 then (if k % 2 = 0 then (17, (k - 4) / 2, 0, 0) else (18, (k - 4) / 2, 0, 0))
  else if k < 49 then (k - 44 + 19, 0, 0, 0) else if k < 69 then (24, k - 49, 0, 0)
  else if k < 300 then zx_sl ((k - 69) / 77) ((k - 69) % 77) else (k - 300 + 25, 0, 0, 0)
def zx_inv : zx_H → Nat := fun h =>
  match h.1 with
  | 0 => 0 | 14 => 1 | 15 => 2 | 16 => 3 | 17 => 4 + 2 * h.2.1 | 18 => 5 + 2 * h.2.1 | 19 => 44 | 20 => 45 | 21 => 46 | 22 => 47 | 23 => 48 | 24 => 49 + h.2.1
  | 1 => 69 + 77 * h.2.1 | 2 => 70 + 77 * h.2.1 | 4 => 71 + 77 * h.2.1 | 6 => 72 + 77 * h.2.1 | 8 => 73 + 77 * h.2.1 | 10 => 74 + 77 * h.2.1
  | 3 => 75 + 77 * h.2.1 + h.2.2.1 | 5 => 83 + 77 * h.2.1 + h.2.2.1 | 9 => 90 + 77 * h.2.1 + h.2.2.1
  | 7 => 96 + 77 * h.2.1 + 5 * h.2.2.1 | 11 => 97 + 77 * h.2.1 + 5 * h.2.2.1 | 12 => 98 + 77 * h.2.1 + 5 * h.2.2.1 | 13 => 99 + 77 * h.2.1 + 5 * h.2.2.1 + h.2.2.2
  | k => k - 25 + 300
/-- what a new cell holds -/
def zx_df (k j : Nat) : zx_V := if zx_ir k j = true then .inr none else .inl 0
def zx_wr (m : zx_F) (h : zx_H) (j : Nat) (v : zx_V) : zx_F := fun h' j' => if h' = h ∧ j' = j then v else m h' j'
def zx_nw (m : zx_F) (h : zx_H) : zx_F := fun h' j => if h' = h then zx_df h.1 j else m h' j
def zx_mn (m : zx_F) (n N : Nat) : zx_F := fun h' j => if h' = zx_seq n then (if j < N then .inr (some (zx_seq (n + 1 + j))) else .inr none) else if (List.range N).any (fun i => decide (h' = zx_seq (n + 1 + i))) then .inl 0 else m h' j
def zx_cp (m : zx_F) (s d : zx_H) (sp dp n : Nat) : zx_F := fun h' j => if h' = d ∧ dp ≤ j ∧ j < dp + n then m s (sp + (j - dp)) else m h' j
def zx_ld (ls : zx_L) (i : Nat) : Option zx_V := match ls[i]? with
  | some (some v) => some v
  | _ => none
/-- the target of a switch: k, k + 1 .. go to the places of the list, others to d -/
def zx_pick (x : Int32) : Int32 → List Nat → Nat → Nat
  | _, [], d => d
  | k, q :: qs, d => if x = k then q else zx_pick x (k + 1) qs d
def zx_in (i : Int32) (n : Nat) : Bool := decide (0 ≤ i) && decide (i.toNatClampNeg < n)
/-- one instruction that neither calls nor returns -/
def zx_do (X : zx_X) (i : Instr) (pc a b : Nat) (c : Int32) (t : List Nat) (ls : zx_L) (st : List zx_V) (μ : zx_M) : Option zx_S :=
  match i with
  | .iconst _ => some (pc + 1, ls, .inl c :: st, μ)
  | .bipush _ => some (pc + 2, ls, .inl c :: st, μ)
  | .sipush _ => some (pc + 3, ls, .inl c :: st, μ)
  | .ldc _ => some (pc + 2, ls, .inl c :: st, μ)
  | .aconst_null => some (pc + 1, ls, .inr none :: st, μ)
  | .iload_n _ => match zx_ld ls a with | some (.inl x) => some (pc + 1, ls, .inl x :: st, μ) | _ => none
  | .iload _ => match zx_ld ls a with | some (.inl x) => some (pc + 2, ls, .inl x :: st, μ) | _ => none
  | .aload_n _ => match zx_ld ls a with | some (.inr (some h)) => some (pc + 1, ls, .inr (some h) :: st, μ) | some (.inr none) => some (pc + 1, ls, .inr none :: st, μ) | _ => none
  | .aload _ => match zx_ld ls a with | some (.inr (some h)) => some (pc + 2, ls, .inr (some h) :: st, μ) | some (.inr none) => some (pc + 2, ls, .inr none :: st, μ) | _ => none
  | .istore_n _ => match st with | .inl x :: st => (match Nat.ble (a + 1) ls.length with | true => some (pc + 1, ls.set a (some (.inl x)), st, μ) | false => none) | _ => none
  | .istore _ => match st with | .inl x :: st => (match Nat.ble (a + 1) ls.length with | true => some (pc + 2, ls.set a (some (.inl x)), st, μ) | false => none) | _ => none
  | .astore_n _ => match st with | .inr (some h) :: st => (match Nat.ble (a + 1) ls.length with | true => some (pc + 1, ls.set a (some (.inr (some h))), st, μ) | false => none) | .inr none :: st => (match Nat.ble (a + 1) ls.length with | true => some (pc + 1, ls.set a (some (.inr none)), st, μ) | false => none) | _ => none
  | .astore _ => match st with | .inr (some h) :: st => (match Nat.ble (a + 1) ls.length with | true => some (pc + 2, ls.set a (some (.inr (some h))), st, μ) | false => none) | .inr none :: st => (match Nat.ble (a + 1) ls.length with | true => some (pc + 2, ls.set a (some (.inr none)), st, μ) | false => none) | _ => none
  | .iinc _ _ => match zx_ld ls a with | some (.inl x) => some (pc + 3, ls.set a (some (.inl (x + c))), st, μ) | _ => none
  | .iadd => match st with | .inl y :: .inl x :: st => some (pc + 1, ls, .inl (x + y) :: st, μ) | _ => none
  | .isub => match st with | .inl y :: .inl x :: st => some (pc + 1, ls, .inl (x - y) :: st, μ) | _ => none
  | .imul => match st with | .inl y :: .inl x :: st => some (pc + 1, ls, .inl (x * y) :: st, μ) | _ => none
  | .iand => match st with | .inl y :: .inl x :: st => some (pc + 1, ls, .inl (x &&& y) :: st, μ) | _ => none
  | .ior => match st with | .inl y :: .inl x :: st => some (pc + 1, ls, .inl (x ||| y) :: st, μ) | _ => none
  | .ishl => match st with | .inl y :: .inl x :: st => some (pc + 1, ls, .inl (x <<< (y &&& 31)) :: st, μ) | _ => none
  | .dup => match st with | v :: st => some (pc + 1, ls, v :: v :: st, μ) | _ => none
  | .dup2 => match st with | v :: w :: st => some (pc + 1, ls, v :: w :: v :: w :: st, μ) | _ => none
  | .pop => match st with | _ :: st => some (pc + 1, ls, st, μ) | _ => none
  | .goto _ => some (a, ls, st, μ)
  | .ifCond .eq _ => match st with | .inl x :: st => some (if x = 0 then (a, ls, st, μ) else (pc + 3, ls, st, μ)) | _ => none
  | .ifCond .ne _ => match st with | .inl x :: st => some (if x = 0 then (pc + 3, ls, st, μ) else (a, ls, st, μ)) | _ => none
  | .ifCond .lt _ => match st with | .inl x :: st => some (if x < 0 then (a, ls, st, μ) else (pc + 3, ls, st, μ)) | _ => none
  | .ifCond .ge _ => match st with | .inl x :: st => some (if 0 ≤ x then (a, ls, st, μ) else (pc + 3, ls, st, μ)) | _ => none
  | .ifCond .gt _ => match st with | .inl x :: st => some (if 0 < x then (a, ls, st, μ) else (pc + 3, ls, st, μ)) | _ => none
  | .ifCond .le _ => match st with | .inl x :: st => some (if x ≤ 0 then (a, ls, st, μ) else (pc + 3, ls, st, μ)) | _ => none
  | .if_icmp .eq _ => match st with | .inl y :: .inl x :: st => some (if x = y then (a, ls, st, μ) else (pc + 3, ls, st, μ)) | _ => none
  | .if_icmp .ne _ => match st with | .inl y :: .inl x :: st => some (if x = y then (pc + 3, ls, st, μ) else (a, ls, st, μ)) | _ => none
  | .if_icmp .lt _ => match st with | .inl y :: .inl x :: st => some (if x < y then (a, ls, st, μ) else (pc + 3, ls, st, μ)) | _ => none
  | .if_icmp .ge _ => match st with | .inl y :: .inl x :: st => some (if y ≤ x then (a, ls, st, μ) else (pc + 3, ls, st, μ)) | _ => none
  | .if_icmp .gt _ => match st with | .inl y :: .inl x :: st => some (if y < x then (a, ls, st, μ) else (pc + 3, ls, st, μ)) | _ => none
  | .if_icmp .le _ => match st with | .inl y :: .inl x :: st => some (if x ≤ y then (a, ls, st, μ) else (pc + 3, ls, st, μ)) | _ => none
  | .ifnull _ => match st with | .inr none :: st => some (a, ls, st, μ) | .inr (some _) :: st => some (pc + 3, ls, st, μ) | _ => none
  | .ifnonnull _ => match st with | .inr none :: st => some (pc + 3, ls, st, μ) | .inr (some _) :: st => some (a, ls, st, μ) | _ => none
  | .tableswitch _ _ _ _ => match st with | .inl x :: st => some (zx_pick x c t.tail (t.headD 0), ls, st, μ) | _ => none
  | .getfield _ => match st with
    | .inr (some h) :: st => match (Nat.beq (zx_kd h.1).1 1 && Nat.beq (zx_kd h.1).2.1 a && Nat.ble (b + 1) (zx_kd h.1).2.2) with | true => some (pc + 3, ls, μ.1 h b :: st, μ) | false => none
    | _ => none
  | .putfield _ => match st with
    | v :: .inr (some h) :: st => if v = .inr (some (33, 0, 0, 0)) then none else if ((zx_kd h.1).1 = 1 ∧ (zx_kd h.1).2.1 = a ∧ b < (zx_kd h.1).2.2 ∧ v.isRight = zx_ir h.1 b) ∧ (c = 1 → v = .inl 0 ∨ v = .inl 1) then some (pc + 3, ls, st, (zx_wr μ.1 h b v, μ.2)) else none
    | _ => none
  | .arraylength => match st with
    | .inr (some h) :: st => if h = (33, 0, 0, 0) then some (pc + 1, ls, .inl (Int32.ofNat X.1) :: st, μ) else if (zx_kd h.1).1 = 2 then some (pc + 1, ls, .inl (Int32.ofNat (zx_kd h.1).2.2) :: st, μ) else none
    | _ => none
  | .iaload => match st with
    | .inl i :: .inr (some h) :: st => if h = (33, 0, 0, 0) then (if zx_in i X.1 = true then some (pc + 1, ls, .inl (X.2 i.toNatClampNeg) :: st, μ) else none)
      else if (zx_kd h.1).1 = 2 ∧ (zx_kd h.1).2.1 = 0 ∧ zx_in i (zx_kd h.1).2.2 = true then some (pc + 1, ls, μ.1 h i.toNatClampNeg :: st, μ) else none
    | _ => none
  | .aaload => match st with
    | .inl i :: .inr (some h) :: st => if (zx_kd h.1).1 = 2 ∧ 0 < (zx_kd h.1).2.1 ∧ zx_in i (zx_kd h.1).2.2 = true then some (pc + 1, ls, μ.1 h i.toNatClampNeg :: st, μ) else none
    | _ => none
  | .iastore => match st with
    | .inl x :: .inl i :: .inr (some h) :: st => if (zx_kd h.1).1 = 2 ∧ (zx_kd h.1).2.1 = 0 ∧ zx_in i (zx_kd h.1).2.2 = true then some (pc + 1, ls, st, (zx_wr μ.1 h i.toNatClampNeg (.inl x), μ.2)) else none
    | _ => none
  | .aastore => match st with
    | .inr (some v) :: .inl i :: .inr (some h) :: st => if ((zx_kd h.1).1 = 2 ∧ 1 < (zx_kd h.1).2.1 ∧ zx_in i (zx_kd h.1).2.2 = true) ∧ (zx_kd v.1).1 = 1 ∧ (zx_kd v.1).2.1 = zx_ac (zx_kd h.1).2.1 then some (pc + 1, ls, st, (zx_wr μ.1 h i.toNatClampNeg (.inr (some v)), μ.2)) else none
    | _ => none
  | .new _ => if (zx_kd (zx_seq μ.2).1).1 = 1 ∧ (zx_kd (zx_seq μ.2).1).2.1 = a then some (pc + 3, ls, .inr (some (zx_seq μ.2)) :: st, (zx_nw μ.1 (zx_seq μ.2), μ.2 + 1)) else none
  | .newarray _ => match st with
    | .inl n :: st => if (zx_kd (zx_seq μ.2).1).1 = 2 ∧ (zx_kd (zx_seq μ.2).1).2.1 = 0 ∧ n = Int32.ofNat (zx_kd (zx_seq μ.2).1).2.2 then some (pc + 2, ls, .inr (some (zx_seq μ.2)) :: st, (zx_nw μ.1 (zx_seq μ.2), μ.2 + 1)) else none
    | _ => none
  | .anewarray _ => match st with
    | .inl n :: st => if (zx_kd (zx_seq μ.2).1).1 = 2 ∧ (zx_kd (zx_seq μ.2).1).2.1 = a ∧ n = Int32.ofNat (zx_kd (zx_seq μ.2).1).2.2 then some (pc + 3, ls, .inr (some (zx_seq μ.2)) :: st, (zx_nw μ.1 (zx_seq μ.2), μ.2 + 1)) else none
    | _ => none
  | .multianewarray _ _ => match st with
    | .inl k :: .inl n :: st => if ((zx_kd (zx_seq μ.2).1).1 = 2 ∧ (zx_kd (zx_seq μ.2).1).2.1 = 1 ∧ n = Int32.ofNat (zx_kd (zx_seq μ.2).1).2.2) ∧ k = Int32.ofNat (zx_kd (zx_seq (μ.2 + 1)).1).2.2 ∧ (∀ i : Nat, i < (zx_kd (zx_seq μ.2).1).2.2 → zx_kd (zx_seq (μ.2 + 1 + i)).1 = (2, 0, (zx_kd (zx_seq (μ.2 + 1)).1).2.2)) then some (pc + 4, ls, .inr (some (zx_seq μ.2)) :: st, (zx_mn μ.1 μ.2 (zx_kd (zx_seq μ.2).1).2.2, μ.2 + 1 + (zx_kd (zx_seq μ.2).1).2.2)) else none
    | _ => none
  | .invokespecial _ => match (Nat.beq a 900 && Nat.ble st.length 9) with
    | true => match st with | .inr (some _) :: st => some (pc + 3, ls, st, μ) | _ => none
    | false => none
  | .invokestatic _ => match st with
    | .inl n :: .inl dp :: .inr (some d) :: .inl sp :: .inr (some s) :: st => if (a = 901 ∧ st.length ≤ 8 ∧ 0 ≤ n ∧ 0 ≤ dp ∧ 0 ≤ sp) ∧ ((zx_kd s.1).1 = 2 ∧ (zx_kd s.1).2.1 = 0 ∧ sp.toNatClampNeg + n.toNatClampNeg ≤ (zx_kd s.1).2.2) ∧ ((zx_kd d.1).1 = 2 ∧ (zx_kd d.1).2.1 = 0 ∧ dp.toNatClampNeg + n.toNatClampNeg ≤ (zx_kd d.1).2.2) then some (pc + 3, ls, st, (zx_cp μ.1 s d sp.toNatClampNeg dp.toNatClampNeg n.toNatClampNeg, μ.2)) else none
    | .inl y :: .inl x :: st => match (Nat.beq a 902 && Nat.ble st.length 8) with
      | true => some (pc + 3, ls, .inl (if x < y then y else x) :: st, μ)
      | false => match (Nat.beq a 903 && Nat.ble st.length 8) with
        | true => some (pc + 3, ls, .inl (if y < x then y else x) :: st, μ)
        | false => none
    | _ => none
  | _ => none
/-- a return -/
def zx_rt (i : Instr) (c : Int32) (st : List zx_V) (μ : zx_M) : Option zx_O :=
  match i with
  | .ireturn => match st with | [.inl v] => if c = 1 → v = 0 ∨ v = 1 then some (some (.inl v), μ) else none | _ => none
  | .areturn => match st with | [.inr v] => some (some (.inr v), μ) | _ => none
  | .return_ => match st with | [] => some (none, μ) | _ => none
  | _ => none
/-- a call: which method, its arguments, what stays on the stack -/
def zx_iv (i : Instr) (a b : Nat) (t : List Nat) (st : List zx_V) : Option (Nat × List zx_V × List zx_V) :=
  match i with
  | .invokestatic _ => match (Nat.ble 900 a || Nat.ble (st.length + 1) b || Nat.ble (b + 9) st.length) with
    | true => none
    | false => some (a, (st.take b).reverse, st.drop b)
  | .invokevirtual _ => match st.drop b with
    | .inr (some h) :: rest => match (Nat.beq (zx_kd h.1).1 1 && Nat.beq (zx_kd h.1).2.1 (t.headD 0) && Nat.ble rest.length 8) with
      | true => some (a, .inr (some h) :: (st.take b).reverse, rest)
      | false => none
    | _ => none
  | .invokespecial _ => match Nat.ble 900 a with
    | true => none
    | false => match st.drop b with
      | .inr (some h) :: rest => match (Nat.beq (zx_kd h.1).1 1 && Nat.beq (zx_kd h.1).2.1 (t.headD 0) && Nat.ble rest.length 8) with
        | true => some (a, .inr (some h) :: (st.take b).reverse, rest)
        | false => none
      | _ => none
  | _ => none
def zx_at (code : List zx_I) (pc : Nat) : Option zx_I := code.find? (fun e => Nat.beq e.1 pc)
/-- memories that say the same of every place that there is -/
def zx_eqv (μ ν : zx_M) : Prop := μ.2 = ν.2 ∧ ∀ k, k < μ.2 → ∀ j, j < (zx_kd (zx_seq k).1).2.2 → μ.1 (zx_seq k) j = ν.1 (zx_seq k) j
/-- at most n instructions, calls by R, come from s to the answer r; a memory may be read as another that says the same -/
def zx_ex (X : zx_X) (R : Nat → List zx_V → zx_M → zx_O → Prop) (code : List zx_I) : Nat → zx_S → zx_O → Prop
  | 0, _, _ => False
  | n + 1, (pc, ls, st, μ), r => (∃ ν, zx_eqv μ ν ∧ zx_ex X R code n (pc, ls, st, ν) r) ∨ ∃ (i : Instr) (a b : Nat) (c : Int32) (t : List Nat), zx_at code pc = some (pc, i, a, b, c, t) ∧
      ((∃ s', zx_do X i pc a b c t ls st μ = some s' ∧ zx_ex X R code n s' r) ∨ zx_rt i c st μ = some r ∨
        ∃ (y : Nat) (as rest : List zx_V) (v : Option zx_V) (μ' : zx_M), zx_iv i a b t st = some (y, as, rest) ∧ R y as μ (v, μ') ∧ zx_ex X R code n (pc + 3, ls, v.toList ++ rest, μ') r)
def zx_en (ml : Nat) (as : List zx_V) : zx_L := as.map some ++ List.replicate (ml - as.length) none
