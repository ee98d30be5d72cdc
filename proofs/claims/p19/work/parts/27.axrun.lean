/-! PART 27: the checker's runs -/
abbrev ai_C : Type := List (Nat × ai_A × ai_L)
abbrev ai_Rc : Type := ai_C → Nat → List MI → List MI → Nat → List ai_V → List (Option ai_V) → ai_S → (ai_V → ai_S → Bool) → Bool
def ai_cu (cuts : ai_C) (j : Nat) : Option (ai_A × ai_L) := match cuts with
  | [] => none
  | q :: r => match Nat.beq q.1 j with
    | true => some q.2
    | false => ai_cu r j
def ai_sy (n m : Nat) : List ai_L := match m with
  | 0 => []
  | m + 1 => ai_s n :: ai_sy (n + 1) m
/-- the measure at a loop's head: not negative, and less than at the start -/
def ai_me (S : ai_S) (σ : List ai_L) (mst : Option ai_L) (ms : ai_L) : Bool := match ai_sb σ ms.1 ms.2 with
  | none => false
  | some a => ai_ge 2 S.2.1 S.2.2.2.1 a && (match mst with
    | none => true
    | some m0 => ai_ge 2 S.2.1 S.2.2.2.1 (ai_ad1 (ai_sub m0 a) (-1)))
def ai_go (T : ai_T) (n0 : Nat) (mst : Option ai_L) (rec : ai_Rc) (cuts : ai_C) (h : Nat) (code rest : List MI) (j : Nat) (S : ai_S) (ast : List ai_V) (aL : List (Option ai_V)) (ret : ai_V → ai_S → Bool) : Bool := match ai_cu cuts j with
  | none => rec cuts h code rest j ast aL S ret
  | some q => match ast with
    | [] => ai_ck T S (ai_sy 0 n0) q.1 aL (fun S' σ => ai_me S' σ mst q.2)
    | _ :: _ => false
def ai_sw (S : ai_S) (x : ai_L) (tab : List (Int × Nat)) (t : Nat) (k : ai_S → Nat → Bool) : Bool := match tab with
  | [] => k S t
  | p :: ps => ai_eq S (ai_ad1 x (-p.1)) (fun S => k S p.2) && ai_ne S (ai_ad1 x (-p.1)) (fun S => ai_sw S x ps t k)
def ai_ag (as : List ai_V) : List (Option ai_V) := match as with
  | [] => []
  | .inl (true, l) :: r => some (.inl (true, l)) :: none :: ai_ag r
  | a :: r => some a :: ai_ag r
def ai_en (nL : Nat) (as : List ai_V) : List (Option ai_V) := ai_ag as ++ List.replicate (nL - ai_cat as) none
def ai_nx (l : List ai_V) : Bool := match l with
  | [] => true
  | .inr (.inr _) :: _ => false
  | _ :: r => ai_nx r
/-- how many arguments an entry has -/
def ai_ar (ds : List ai_D) : Nat := match ds with
  | [] => 0
  | d :: r => match d.1 with
    | 0 => ai_ar r
    | _ + 1 => ai_ar r + 1
def ai_rv (sub ci : Nat) (as : List ai_V) : Bool := match sub with
  | 2 => match as with
    | .inr (.inl k) :: _ => kd YF k == 10 + ci
    | _ => false
  | 3 => match as with
    | .inr (.inl _) :: _ => true
    | _ => false
  | 4 => match as with
    | .inr (.inl _) :: _ => true
    | _ => false
  | _ => true
def ai_ps (c : Nat) (r : ai_V) (st : List ai_V) : List ai_V := match c with
  | 0 => st
  | _ => r :: st
def ai_zE (n : Nat) (l : List (Int × Int)) : List ai_I := match l with
  | [] => []
  | q :: r => (n, q) :: ai_zE (n + 1) r
def ai_nF (σ : List ai_L) (n : Nat) (cs : List (Nat × ai_L)) : Option (List ai_F) := match cs with
  | [] => some []
  | c :: r => match ai_sb σ c.2.1 c.2.2 with
    | none => none
    | some i => match ai_nF σ (n + 1) r with
      | none => none
      | some t => some ((c.1, i, ai_s n) :: t)
def ai_cs (σ : List ai_L) (C : List ai_L) (S : ai_S) (k : ai_S → Bool) : Bool := match C with
  | [] => k S
  | c :: r => match ai_sb σ c.1 c.2 with
    | none => false
    | some y => ai_fl y fun y => ai_as S y fun S => ai_cs σ r S k
def ai_cn (σ : List ai_L) (C : List ai_L) (S : ai_S) (k : ai_S → Bool) : Bool := match C with
  | [] => k S
  | c :: r => match ai_sb σ c.1 c.2 with
    | none => false
    | some y => ai_fl y fun y => ai_ne S y fun S => ai_cn σ r S k
def ai_rl (n : Nat) (l : List (Int × Int)) : ai_L := match l with
  | [] => ai_s n
  | q :: _ => match decide (q.1 = q.2) with
    | true => ai_c q.1
    | false => ai_s n
/-- behind a call, one of its ends -/
def ai_po (T : ai_T) (w' : Nat) (σ : List ai_L) (S : ai_S) (q : ai_Q) (k : ai_S → ai_L → Bool) : Bool := match S with
  | (n, E, F, C, N) => Nat.beq q.1.length (q.2.1.length + 1) && (match ai_nF σ (n + 1) q.2.1 with
    | none => false
    | some F1 => ai_fo (F1 ++ ai_kw T w' E F) fun F' => ai_fo (ai_zE n q.1 ++ E) fun E' => ai_fn (n + q.1.length) fun n' => ai_fo (σ ++ ai_sy n q.1.length) fun σ' => ai_cs σ' q.2.2.1 (n', E', F', C, N) fun S => ai_cn σ' q.2.2.2 S fun S => k S (ai_rl n q.1))
/-- an end -/
def ai_rt (T : ai_T) (n0 rk : Nat) (qs : List ai_Q) (rv : ai_V) (S : ai_S) : Bool := match rv with
  | .inl (b, l) => (b == Nat.beq rk 2) && qs.any (fun q => Nat.beq q.1.length (q.2.1.length + 1) && ai_mF T (ai_sy 0 n0 ++ [l]) S q.2.1 (fun S' σ => ai_mE S' σ (ai_zE n0 q.1, q.2.2.1, q.2.2.2)))
  | _ => false
def ai_call (T : ai_T) (w n0 : Nat) (mst : Option ai_L) (cl : List ai_P) (inl : List Nat) (rec : ai_Rc) (cuts : ai_C) (h : Nat) (code r : List MI) (i : Nat) (ast : List ai_V) (aL : List (Option ai_V)) (S : ai_S) (ret : ai_V → ai_S → Bool) (a b c sub : Nat) (pl : List Nat) : Bool := match (Nat.beq (ast.take b).length b && ai_nx (ast.take b)) && (Nat.ble (ai_cat (ast.drop b)) 8 && ai_rv sub (pl.getD 3 0) (ast.take b).reverse) with
  | false => false
  | true => match h with
    | 0 => false
    | h' + 1 => ai_fo (ast.drop b) fun st => ai_fo (ai_en (PP RTL a).1 (ast.take b).reverse) fun L' => Nat.ble (ai_cat (ast.take b).reverse) (PP RTL a).1 && (cl.any (fun sp => (Nat.beq sp.1 a && Nat.beq (ai_ar sp.2.1.1) b) && ((Nat.ble sp.2.2.2.2.2.2 h' && Nat.beq (sp.2.2.2.1 &&& w) sp.2.2.2.1) && ai_ck T S [] sp.2.1 L' (fun S' σ => Nat.beq σ.length sp.2.2.1 && sp.2.2.2.2.2.1.all (fun q => ai_po T sp.2.2.2.1 σ S' q (fun S2 l => ai_go T n0 mst rec cuts (h' + 1) code r i S2 (ai_ps c (.inl (Nat.beq sp.2.2.2.2.1 2, l)) st) aL ret))))) || (inl.any (fun x => Nat.beq x a) && (Nat.ble 1 h' && (match (PP RTL a).2 with
      | [] => false
      | x :: t => rec [] h' (x :: t) (x :: t) 0 [] L' S (fun rv S' => ai_go T n0 mst rec cuts (h' + 1) code r i S' (ai_ps c rv st) aL ret)))))
def ai_re (S : ai_S) (ast : List ai_V) (a c : Nat) (ret : ai_V → ai_S → Bool) : Bool := match a with
  | 0 => match ast with
    | [] => ret (.inl (false, ai_c 0)) S
    | _ => false
  | 1 => match ast with
    | [.inl (false, x)] => ai_is1 S c x && ret (.inl (false, x)) S
    | _ => false
  | _ => match ast with
    | [.inl (true, x)] => ret (.inl (true, x)) S
    | _ => false
def ai_if (S : ai_S) (ast : List ai_V) (b : Nat) (k : ai_S → List ai_V → Bool → Bool) : Bool := match ast with
  | .inl (false, x) :: st => ai_cm b S x (ai_c 0) (fun S => k S st true) && ai_cm (ai_ng b) S x (ai_c 0) (fun S => k S st false)
  | _ => false
def ai_ic2 (S : ai_S) (ast : List ai_V) (b : Nat) (k : ai_S → List ai_V → Bool → Bool) : Bool := match ast with
  | .inl (false, y) :: .inl (false, x) :: st => ai_cm b S x y (fun S => k S st true) && ai_cm (ai_ng b) S x y (fun S => k S st false)
  | _ => false
def ai_s18 (S : ai_S) (ast : List ai_V) (tab : List (Int × Nat)) (t : Nat) (k : ai_S → List ai_V → Nat → Bool) : Bool := match ast with
  | .inl (false, x) :: st => ai_sw S x tab t (fun S j => k S st j)
  | _ => false
def ai_step (T : ai_T) (w n0 : Nat) (mst : Option ai_L) (cl : List ai_P) (inl : List Nat) (rec : ai_Rc) : ai_Rc := fun cuts h code rest i ast aL S ret => match rest with
  | [] => false
  | mi :: r => match mi with
    | (op, a, b, c, v, tab, sub, x, pl) => match op with
      | 15 => ai_go T n0 mst rec cuts h code (code.drop a) a S ast aL ret
      | 16 => ai_if S ast b fun S st t => match t with
        | true => ai_go T n0 mst rec cuts h code (code.drop a) a S st aL ret
        | false => ai_fn (i + 1) fun i => ai_go T n0 mst rec cuts h code r i S st aL ret
      | 17 => ai_ic2 S ast b fun S st t => match t with
        | true => ai_go T n0 mst rec cuts h code (code.drop a) a S st aL ret
        | false => ai_fn (i + 1) fun i => ai_go T n0 mst rec cuts h code r i S st aL ret
      | 18 => ai_s18 S ast tab a fun S st j => ai_go T n0 mst rec cuts h code (code.drop j) j S st aL ret
      | 30 => ai_fn (i + 1) fun i => ai_call T w n0 mst cl inl rec cuts h code r i ast aL S ret a b c sub pl
      | 31 => ai_re S ast a c ret
      | _ => ai_op T w S ast aL (op, a, b, c, v, tab, sub, x, pl) (fun S ast aL => ai_fn (i + 1) fun i => ai_go T n0 mst rec cuts h code r i S ast aL ret)
def ai_ax (T : ai_T) (w n0 : Nat) (mst : Option ai_L) (cl : List ai_P) (inl : List Nat) (n : Nat) : ai_Rc := match n with
  | 0 => fun _ _ _ _ _ _ _ _ _ => false
  | n + 1 => ai_step T w n0 mst cl inl (ai_ax T w n0 mst cl inl n)
/-- what a contract says -/
def ai_PO (n0 rk : Nat) (ρ : Nat → Int) (q : ai_Q) (r : Vv) (M1 : MM) : Prop := q.1.length = q.2.1.length + 1 ∧ ∃ ρ1 : Nat → Int, (∀ s, s < n0 → ρ1 s = ρ s) ∧ r = ai_pv (Nat.beq rk 2) (ρ1 n0) ∧ ai_K ρ1 (n0 + q.1.length, ai_zE n0 q.1, ai_bF (n0 + 1) q.2.1, q.2.2.1, q.2.2.2) M1
def ai_SP (T : ai_T) (J : MM → Prop) (sp : ai_P) : Prop := ∀ (sc : List Int) (d : Nat) (ρ : Nat → Int) (M : MM) (as : List Vv) (Q : Vv → MM → Prop), Nat.ble (catV as) (PP RTL sp.1).1 = true → as.length = ai_ar sp.2.1.1 → ai_RL sp.2.2.1 ρ (ai_bL 0 sp.2.1.1) (entLL (PP RTL sp.1).1 as) → ai_K ρ (ai_aS 0 sp.2.1) M → ai_GI T M → J M → (∀ r M1, ai_GI T M1 → ai_Fr T sp.2.2.2.1 M M1 → (∃ q ∈ sp.2.2.2.2.2.1, ai_PO sp.2.2.1 sp.2.2.2.2.1 ρ q r M1) → Q r M1) → CA FF sc YF (d + sp.2.2.2.2.2.2) sp.1 as M Q
def ai_chk (T : ai_T) (wJ : Nat) (cl : List ai_P) (inl : List Nat) (sp : ai_P) (cuts : ai_C) (fuel : Nat) : Bool := match (PP RTL sp.1).2 with
  | [] => false
  | x :: t => ((Nat.beq sp.2.2.1 (ai_aS 0 sp.2.1).1 && Nat.beq (sp.2.2.2.1 &&& wJ) 0) && Nat.ble 1 sp.2.2.2.2.2.2) && (ai_ax T sp.2.2.2.1 sp.2.2.1 none cl inl fuel cuts sp.2.2.2.2.2.2 (x :: t) (x :: t) 0 [] (ai_bL 0 sp.2.1.1) (ai_aS 0 sp.2.1) (ai_rt T sp.2.2.1 sp.2.2.2.2.1 sp.2.2.2.2.2.1) && cuts.all (fun q => ai_ax T sp.2.2.2.1 sp.2.2.1 (some q.2.2) cl inl fuel cuts sp.2.2.2.2.2.2 (x :: t) ((x :: t).drop q.1) q.1 [] (ai_bL sp.2.2.1 q.2.1.1) (ai_aS sp.2.2.1 q.2.1) (ai_rt T sp.2.2.1 sp.2.2.2.2.1 sp.2.2.2.2.2.1)))
