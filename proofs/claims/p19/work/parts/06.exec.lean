/-! PART 06: a small machine of our own: methods as lists of instructions by number, cells as integers; 'exec' runs them -/
abbrev Vv : Type := Int ⊕ (Int ⊕ (Nat ⊕ Nat))
abbrev vi (x : Int) : Vv := Sum.inl x
abbrev vl (x : Int) : Vv := Sum.inr (Sum.inl x)
abbrev vr (k : Nat) : Vv := Sum.inr (Sum.inr (Sum.inl k))
abbrev vx (k : Nat) : Vv := Sum.inr (Sum.inr (Sum.inr k))
abbrev MM : Type := Nat → Nat → Int
abbrev YY : Type := List (Nat × Nat)
abbrev LL : Type := List (Option Vv)
/-- an instruction: op, a, b, c, number, table, form, index, places of words -/
abbrev MI : Type := Nat × Nat × Nat × Nat × Int × List (Int × Nat) × Nat × Nat × List Nat
def stM (M : MM) (k j : Nat) (v : Int) : MM := fun k' j' => if k' = k ∧ j' = j then v else M k' j'
def zrM (M : MM) (k : Nat) : MM := fun k' j' => if k' = k then 0 else M k' j'
def muM (M : MM) (k n : Nat) : MM := fun k' j => if k' = k then (if j < n then ((k + 2 + j : Nat) : Int) else 0) else if k < k' ∧ k' ≤ k + n then 0 else M k' j
def kd (Y : YY) (k : Nat) : Nat := match Y[k]? with
  | some p => p.1
  | none => 99
def ln (Y : YY) (k : Nat) : Int := match Y[k]? with
  | some p => (p.2 : Int)
  | none => 0
def xar (sc : List Int) (k : Nat) : List Int := match k with
  | 0 => [0, 1, 0, -1, 0]
  | 1 => [1, 0, -1, 0, 0]
  | _ => sc
def rfO (f : Nat) (z : Int) : Nat := match f with
  | t + 1 => t
  | 0 => z.toNat - 1
def rfK (f : Nat) (z : Int) : Bool := match f with
  | _ + 1 => true
  | 0 => decide (0 < z)
def bin (a : Nat) (x y : Int) : Int := match a with
  | 0 => w32 (x + y)
  | 1 => w32 (x - y)
  | 2 => w32 (x * y)
  | 3 => bAnd x y
  | 4 => bOr x y
  | 5 => bXor x y
  | 6 => bShl x y
  | 7 => bShr x y
  | 8 => bUsh x y
  | 9 => w32 (x.tdiv y)
  | _ => x.tmod y
def mAbs (x : Int) : Int := if 0 ≤ x then x else w32 (0 - x)
def mMax (x y : Int) : Int := if x < y then y else x
def mMin (x y : Int) : Int := if y < x then y else x
def mMM (a : Nat) (x y : Int) : Int := match a with
  | 1 => mMax x y
  | _ => mMin x y
def bok (a : Nat) (y : Int) : Bool := match a with
  | 9 => decide (y ≠ 0)
  | 10 => decide (y ≠ 0)
  | _ => true
def lbn (a : Nat) (x y : Int) : Int := match a with
  | 0 => w64 (x + y)
  | 1 => w64 (x - y)
  | 2 => w64 (x * y)
  | 3 => bAndL x y
  | 4 => bOrL x y
  | 5 => w64 (x.tdiv y)
  | _ => x.tmod y
def lok (a : Nat) (y : Int) : Bool := match a with
  | 5 => decide (y ≠ 0)
  | 6 => decide (y ≠ 0)
  | _ => true
def cmpB (b : Nat) (x y : Int) : Bool := match b with
  | 0 => decide (x = y)
  | 1 => decide (x ≠ y)
  | 2 => decide (x < y)
  | 3 => decide (y ≤ x)
  | 4 => decide (y < x)
  | _ => decide (x ≤ y)
def swt (tab : List (Int × Nat)) (t : Nat) (x : Int) : Nat := match tab with
  | [] => t
  | p :: ps => if x = p.1 then p.2 else swt ps t x
def isLv (v : Vv) : Bool := match v with
  | .inr (.inl _) => true
  | _ => false
def isXv (v : Vv) : Bool := match v with
  | .inr (.inr (.inr _)) => true
  | _ => false
def ctV (v : Vv) : Nat := match isLv v with
  | true => 2
  | false => 1
def catV (st : List Vv) : Nat := (st.map ctV).sum
def okSt (L : LL) (i : Nat) : Bool := match i with
  | 0 => true
  | j + 1 => match L[j]? with
    | some (some (.inr (.inl _))) => false
    | _ => true
def argLL (as : List Vv) : LL := as.flatMap fun v => match isLv v with
  | true => [some v, none]
  | false => [some v]
def entLL (nL : Nat) (as : List Vv) : LL := argLL as ++ List.replicate (nL - catV as) none
def psh (c : Nat) (r : Vv) (st : List Vv) : List Vv := match c with
  | 0 => st
  | _ => r :: st
def bl2 (c : Nat) (x : Int) : Bool := match c with
  | 0 => true
  | _ => decide (x = 0) || decide (x = 1)
/-- what an instruction does: next (if the guard holds), branch, switch, call, return, new cells, goto -/
abbrev Act : Type := (Bool × List Vv × LL × MM) ⊕ ((Bool × Nat × List Vv) ⊕ ((Int × List (Int × Nat) × Nat × List Vv) ⊕ ((Bool × Nat × List Vv × Nat × List Vv) ⊕ ((Bool × Vv) ⊕ ((List Vv × YY × MM) ⊕ (Nat × List Vv))))))
abbrev aN (c : Bool) (st : List Vv) (L : LL) (M : MM) : Option Act := some (.inl (c, st, L, M))
abbrev aB (c : Bool) (t : Nat) (st : List Vv) : Option Act := some (.inr (.inl (c, t, st)))
abbrev aS (x : Int) (tab : List (Int × Nat)) (t : Nat) (st : List Vv) : Option Act := some (.inr (.inr (.inl (x, tab, t, st))))
abbrev aC (g : Bool) (m : Nat) (as : List Vv) (c : Nat) (st : List Vv) : Option Act := some (.inr (.inr (.inr (.inl (g, m, as, c, st)))))
abbrev aR (c : Bool) (v : Vv) : Option Act := some (.inr (.inr (.inr (.inr (.inl (c, v))))))
abbrev aA (st : List Vv) (Y : YY) (M : MM) : Option Act := some (.inr (.inr (.inr (.inr (.inr (.inl (st, Y, M)))))))
abbrev aG (t : Nat) (st : List Vv) : Option Act := some (.inr (.inr (.inr (.inr (.inr (.inr (t, st)))))))
def rcv (sub ci : Nat) (Y : YY) (as : List Vv) : Bool := match sub with
  | 2 => match as with
    | .inr (.inr (.inl k)) :: _ => kd Y k == 10 + ci
    | _ => false
  | 3 => match as with
    | .inr (.inr (.inl _)) :: _ => true
    | _ => false
  | 4 => match as with
    | .inr (.inr (.inl _)) :: _ => true
    | _ => false
  | _ => true
def stp (F : Nat → Nat → Nat) (X : Nat → List Int) (Y : YY) (M : MM) (L : LL) (st : List Vv) (mi : MI) : Option Act := match mi with
  | (op, a, b, c, v, tab, sub, _, pl) => match op with
    | 0 => aN true (vi v :: st) L M
    | 1 => aN true (vl v :: st) L M
    | 2 => match L[a]? with
      | some (some (.inl x)) => aN true (vi x :: st) L M
      | _ => none
    | 3 => match L[a]? with
      | some (some (.inr (.inl x))) => aN true (vl x :: st) L M
      | _ => none
    | 4 => match L[a]? with
      | some (some (.inr (.inr (.inl k)))) => aN true (vr k :: st) L M
      | _ => none
    | 5 => match st with
      | .inl x :: st' => aN (okSt L a && Nat.blt a L.length) st' (L.set a (some (vi x))) M
      | _ => none
    | 6 => match st with
      | .inr (.inl x) :: st' => aN (okSt L a && Nat.blt (a + 1) L.length) st' ((L.set a (some (vl x))).set (a + 1) none) M
      | _ => none
    | 7 => match st with
      | .inr (.inr (.inl k)) :: st' => aN (okSt L a && Nat.blt a L.length) st' (L.set a (some (vr k))) M
      | _ => none
    | 8 => match L[a]? with
      | some (some (.inl x)) => aN (okSt L a) st (L.set a (some (vi (w32 (x + v))))) M
      | _ => none
    | 9 => match st with
      | .inl y :: .inl x :: st' => aN (bok a y) (vi (bin a x y) :: st') L M
      | _ => none
    | 10 => match st with
      | .inl x :: st' => match a with
        | 0 => aN true (vi (w32 (-x)) :: st') L M
        | _ => aN true (vi (w8 x) :: st') L M
      | _ => none
    | 11 => match st with
      | .inr (.inl y) :: .inr (.inl x) :: st' => aN (lok a y) (vl (lbn a x y) :: st') L M
      | _ => none
    | 12 => match a with
      | 0 => match st with
        | .inl x :: st' => aN true (vl x :: st') L M
        | _ => none
      | _ => match st with
        | .inr (.inl x) :: st' => aN true (vi (w32 x) :: st') L M
        | _ => none
    | 13 => match st with
      | .inl y :: .inr (.inl x) :: st' => match a with
        | 0 => aN true (vl (bShlL x y) :: st') L M
        | _ => aN true (vl (bShrL x y) :: st') L M
      | _ => none
    | 14 => match st with
      | .inr (.inl y) :: .inr (.inl x) :: st' => aN true (vi (lcm3 x y) :: st') L M
      | _ => none
    | 15 => aG a st
    | 16 => match st with
      | .inl x :: st' => aB (cmpB b x 0) a st'
      | _ => none
    | 17 => match st with
      | .inl y :: .inl x :: st' => aB (cmpB b x y) a st'
      | _ => none
    | 18 => match st with
      | .inl x :: st' => aS x tab a st'
      | _ => none
    | 19 => match st with
      | .inr (.inr (.inl k)) :: st' => aN (kd Y k == 10 + a) (vi (M k b) :: st') L M
      | _ => none
    | 20 => match st with
      | .inr (.inr (.inl k)) :: st' => aN ((kd Y k == 10 + a) && rfK (F k b) (M k b)) (vr (rfO (F k b) (M k b)) :: st') L M
      | _ => none
    | 21 => match st with
      | .inl x :: .inr (.inr (.inl k)) :: st' => aN ((kd Y k == 10 + a) && bl2 c x) st' L (stM M k b x)
      | _ => none
    | 22 => match st with
      | .inr (.inr (.inl t)) :: .inr (.inr (.inl k)) :: st' => aN ((kd Y k == 10 + a) && (F k b == 0)) st' L (stM M k b ((t : Int) + 1))
      | _ => none
    | 23 => match st with
      | .inl x :: .inr (.inr (.inl k)) :: st' => aN ((kd Y k == 10 + a) && bl2 c x) st' L (stM M k b x)
      | _ => none
    | 24 => match st with
      | .inr (.inr (.inl t)) :: .inr (.inr (.inl k)) :: st' => aN ((kd Y k == 10 + a) && (F k b == 0)) st' L (stM M k b ((t : Int) + 1))
      | _ => none
    | 25 => match st with
      | .inl x :: .inr (.inr (.inl k)) :: st' => match a with
        | 3 => aN ((kd Y k == a) && (decide (0 ≤ x) && decide (x < ln Y k))) (vl (M k x.toNat) :: st') L M
        | 4 => aN ((kd Y k == a) && (decide (0 ≤ x) && (decide (x < ln Y k) && rfK (F k x.toNat) (M k x.toNat)))) (vr (rfO (F k x.toNat) (M k x.toNat)) :: st') L M
        | _ => aN ((kd Y k == a) && (decide (0 ≤ x) && decide (x < ln Y k))) (vi (M k x.toNat) :: st') L M
      | .inl x :: .inr (.inr (.inr k)) :: st' => match a with
        | 0 => aN (decide (0 ≤ x) && decide (x < ((X k).length : Int))) (vi ((X k).getD x.toNat 0) :: st') L M
        | _ => none
      | _ => none
    | 26 => match a with
      | 3 => match st with
        | .inr (.inl z) :: .inl x :: .inr (.inr (.inl k)) :: st' => aN ((kd Y k == a) && (decide (0 ≤ x) && decide (x < ln Y k))) st' L (stM M k x.toNat z)
        | _ => none
      | 0 => match st with
        | .inl z :: .inl x :: .inr (.inr (.inl k)) :: st' => aN ((kd Y k == a) && (decide (0 ≤ x) && decide (x < ln Y k))) st' L (stM M k x.toNat z)
        | _ => none
      | 1 => match st with
        | .inl z :: .inl x :: .inr (.inr (.inl k)) :: st' => aN ((kd Y k == a) && (decide (0 ≤ x) && decide (x < ln Y k))) st' L (stM M k x.toNat (w8 z))
        | _ => none
      | 2 => match st with
        | .inl z :: .inl x :: .inr (.inr (.inl k)) :: st' => aN ((kd Y k == a) && (decide (0 ≤ x) && (decide (x < ln Y k) && bl2 1 z))) st' L (stM M k x.toNat z)
        | _ => none
      | _ => none
    | 27 => match a with
      | 0 => aN true (vx 0 :: st) L M
      | 1 => aN true (vx 1 :: st) L M
      | _ => none
    | 28 => aN true (vx 2 :: st) L M
    | 29 => match st with
      | .inr (.inr (.inr 2)) :: st' => aN true (vi ((X 2).length : Int) :: st') L M
      | _ => none
    | 30 => match (st.take b).all (fun v => !isXv v) && (Nat.ble (catV (st.drop b)) 8 && (st.take b).length == b) with
      | true => aC (rcv sub (pl.getD 3 0) Y (st.take b).reverse) a (st.take b).reverse c (st.drop b)
      | false => none
    | 31 => match a with
      | 0 => match st with
        | [] => aR true (vi 0)
        | _ => none
      | 1 => match st with
        | [.inl x] => aR (bl2 c x) (vi x)
        | _ => none
      | _ => match st with
        | [.inr (.inl x)] => aR true (vl x)
        | _ => none
    | 32 => match st with
      | .inr (.inr (.inl k)) :: st' => aN true (vr k :: vr k :: st') L M
      | _ => none
    | 33 => match st with
      | .inl x :: .inr (.inr (.inl k)) :: st' => aN true (vi x :: vr k :: vi x :: vr k :: st') L M
      | _ => none
    | 34 => match a with
      | 0 => match st with
        | .inl _ :: st' => aN true st' L M
        | _ => none
      | _ => match st with
        | .inr (.inl _) :: st' => aN true st' L M
        | _ => none
    | 35 => aA (vr Y.length :: st) (Y ++ [(10 + a, 0)]) (zrM M Y.length)
    | 36 => match st with
      | .inl x :: st' => match decide (0 ≤ x) && decide (x < 200000) with
        | true => aA (vr Y.length :: st') (Y ++ [(a, x.toNat)]) (zrM M Y.length)
        | false => none
      | _ => none
    | 37 => match st with
      | .inl y :: .inl x :: st' => match decide (0 ≤ x) && (decide (x < 200000) && (decide (0 ≤ y) && decide (y < 200000))) with
        | true => aA (vr Y.length :: st') (Y ++ ((4, x.toNat) :: List.replicate x.toNat (0, y.toNat))) (muM M Y.length x.toNat)
        | false => none
      | _ => none
    | 38 => match st with
      | .inr (.inr (.inl _)) :: st' => match Nat.ble (catV st') 8 with
        | true => aN true st' L M
        | false => none
      | _ => none
    | 39 => match a with
      | 0 => match st with
        | .inl x :: st' => match Nat.ble (catV st') 8 with
          | true => aN true (vi (mAbs x) :: st') L M
          | false => none
        | _ => none
      | _ => match st with
        | .inl y :: .inl x :: st' => match Nat.ble (catV st') 8 with
          | true => aN true (vi (mMM a x y) :: st') L M
          | false => none
        | _ => none
    | _ => none
def exec (P : Nat → Nat × List MI) (F : Nat → Nat → Nat) (X : Nat → List Int) : Nat → Nat → Nat → Nat → List Vv → LL → YY → MM → Option (Vv × YY × MM)
  | 0, _, _, _, _, _, _, _ => none
  | n + 1, d, m, i, st, L, Y, M => match (P m).2[i]? with
    | none => none
    | some mi => match stp F X Y M L st mi with
      | none => none
      | some (.inl (c, st', L', M')) => match c with
        | true => exec P F X n d m (i + 1) st' L' Y M'
        | false => none
      | some (.inr (.inl (c, t, st'))) => match c with
        | true => exec P F X n d m t st' L Y M
        | false => exec P F X n d m (i + 1) st' L Y M
      | some (.inr (.inr (.inl (x, tab, t, st')))) => exec P F X n d m (swt tab t x) st' L Y M
      | some (.inr (.inr (.inr (.inl (g, m', as, c, st'))))) => match d with
        | 0 => none
        | d' + 1 => match g && (Nat.ble (catV as) (P m').1 && Nat.ble 1 d') with
          | true => match exec P F X n d' m' 0 [] (entLL (P m').1 as) Y M with
            | none => none
            | some (r, Y1, M1) => exec P F X n (d' + 1) m (i + 1) (psh c r st') L Y1 M1
          | false => none
      | some (.inr (.inr (.inr (.inr (.inl (c, v)))))) => match c with
        | true => some (v, Y, M)
        | false => none
      | some (.inr (.inr (.inr (.inr (.inr (.inl (st', Y', M'))))))) => exec P F X n d m (i + 1) st' L Y' M'
      | some (.inr (.inr (.inr (.inr (.inr (.inr (t, st'))))))) => exec P F X n d m t st' L Y M
/-! more fuel, the same run -/
theorem exec_up (P : Nat → Nat × List MI) (F : Nat → Nat → Nat) (X : Nat → List Int) : ∀ (n d m i : Nat) (st : List Vv) (L : LL) (Y : YY) (M : MM) (o : Vv × YY × MM), exec P F X n d m i st L Y M = some o → exec P F X (n + 1) d m i st L Y M = some o := by
  intro n
  induction n with
  | zero => intro d m i st L Y M o h; cases h
  | succ n ih =>
    intro d m i st L Y M o h
    rw [exec] at h ⊢
    revert h
    cases (P m).2[i]? with
    | none => exact id
    | some mi =>
      dsimp only
      cases stp F X Y M L st mi with
      | none => exact id
      | some act =>
        rcases act with ⟨c, st', L', M'⟩ | ⟨c, t, st'⟩ | ⟨x, tab, t, st'⟩ | ⟨g, m', as, c, st'⟩ | ⟨c, v⟩ | ⟨st', Y', M'⟩ | ⟨t, st'⟩ <;> dsimp only
        · cases c
          · exact id
          · exact ih _ _ _ _ _ _ _ _
        · cases c <;> exact ih _ _ _ _ _ _ _ _
        · exact ih _ _ _ _ _ _ _ _
        · cases d with
          | zero => exact id
          | succ d =>
            dsimp only
            cases g && (Nat.ble (catV as) (P m').1 && Nat.ble 1 d) with
            | false => exact id
            | true =>
              dsimp only
              cases h1 : exec P F X n d m' 0 [] (entLL (P m').1 as) Y M with
              | none => intro h; cases h
              | some q =>
                rw [ih _ _ _ _ _ _ _ _ h1]
                exact ih _ _ _ _ _ _ _ _
        · exact id
        · exact ih _ _ _ _ _ _ _ _
        · exact ih _ _ _ _ _ _ _ _
theorem exec_add (P : Nat → Nat × List MI) (F : Nat → Nat → Nat) (X : Nat → List Int) {n d m i : Nat} {st : List Vv} {L : LL} {Y : YY} {M : MM} {o : Vv × YY × MM} (h : exec P F X n d m i st L Y M = some o) : ∀ k, exec P F X (n + k) d m i st L Y M = some o
  | 0 => h
  | k + 1 => exec_up P F X _ _ _ _ _ _ _ _ _ (exec_add P F X h k)
