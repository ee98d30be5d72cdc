/-! PART 08: stp and okI, an op each-/
section EQS
variable {RT : List Rec} {R : Rec} {F : Nat → Nat → Nat} {X : Nat → List Int} {Y : YY} {M : MM} {L : LL} {st : List Vv} {i a b c sub idx : Nat} {v : Int} {tab : List (Int × Nat)} {pl : List Nat}
theorem st_0 : stp F X Y M L st (0, a, b, c, v, tab, sub, idx, pl) = (aN true (vi v :: st) L M) := rfl
theorem st_1 : stp F X Y M L st (1, a, b, c, v, tab, sub, idx, pl) = (aN true (vl v :: st) L M) := rfl
theorem st_2 : stp F X Y M L st (2, a, b, c, v, tab, sub, idx, pl) = (match L[a]? with
      | some (some (.inl x)) => aN true (vi x :: st) L M
      | _ => none) := rfl
theorem st_3 : stp F X Y M L st (3, a, b, c, v, tab, sub, idx, pl) = (match L[a]? with
      | some (some (.inr (.inl x))) => aN true (vl x :: st) L M
      | _ => none) := rfl
theorem st_4 : stp F X Y M L st (4, a, b, c, v, tab, sub, idx, pl) = (match L[a]? with
      | some (some (.inr (.inr (.inl k)))) => aN true (vr k :: st) L M
      | _ => none) := rfl
theorem st_5 : stp F X Y M L st (5, a, b, c, v, tab, sub, idx, pl) = (match st with
      | .inl x :: st' => aN (okSt L a && Nat.blt a L.length) st' (L.set a (some (vi x))) M
      | _ => none) := rfl
theorem st_6 : stp F X Y M L st (6, a, b, c, v, tab, sub, idx, pl) = (match st with
      | .inr (.inl x) :: st' => aN (okSt L a && Nat.blt (a + 1) L.length) st' ((L.set a (some (vl x))).set (a + 1) none) M
      | _ => none) := rfl
theorem st_7 : stp F X Y M L st (7, a, b, c, v, tab, sub, idx, pl) = (match st with
      | .inr (.inr (.inl k)) :: st' => aN (okSt L a && Nat.blt a L.length) st' (L.set a (some (vr k))) M
      | _ => none) := rfl
theorem st_8 : stp F X Y M L st (8, a, b, c, v, tab, sub, idx, pl) = (match L[a]? with
      | some (some (.inl x)) => aN (okSt L a) st (L.set a (some (vi (w32 (x + v))))) M
      | _ => none) := rfl
theorem st_9 : stp F X Y M L st (9, a, b, c, v, tab, sub, idx, pl) = (match st with
      | .inl y :: .inl x :: st' => aN (bok a y) (vi (bin a x y) :: st') L M
      | _ => none) := rfl
theorem st_10 : stp F X Y M L st (10, a, b, c, v, tab, sub, idx, pl) = (match st with
      | .inl x :: st' => match a with
        | 0 => aN true (vi (w32 (-x)) :: st') L M
        | _ => aN true (vi (w8 x) :: st') L M
      | _ => none) := rfl
theorem st_11 : stp F X Y M L st (11, a, b, c, v, tab, sub, idx, pl) = (match st with
      | .inr (.inl y) :: .inr (.inl x) :: st' => aN (lok a y) (vl (lbn a x y) :: st') L M
      | _ => none) := rfl
theorem st_12 : stp F X Y M L st (12, a, b, c, v, tab, sub, idx, pl) = (match a with
      | 0 => match st with
        | .inl x :: st' => aN true (vl x :: st') L M
        | _ => none
      | _ => match st with
        | .inr (.inl x) :: st' => aN true (vi (w32 x) :: st') L M
        | _ => none) := rfl
theorem st_13 : stp F X Y M L st (13, a, b, c, v, tab, sub, idx, pl) = (match st with
      | .inl y :: .inr (.inl x) :: st' => match a with
        | 0 => aN true (vl (bShlL x y) :: st') L M
        | _ => aN true (vl (bShrL x y) :: st') L M
      | _ => none) := rfl
theorem st_14 : stp F X Y M L st (14, a, b, c, v, tab, sub, idx, pl) = (match st with
      | .inr (.inl y) :: .inr (.inl x) :: st' => aN true (vi (lcm3 x y) :: st') L M
      | _ => none) := rfl
theorem st_15 : stp F X Y M L st (15, a, b, c, v, tab, sub, idx, pl) = (aG a st) := rfl
theorem st_16 : stp F X Y M L st (16, a, b, c, v, tab, sub, idx, pl) = (match st with
      | .inl x :: st' => aB (cmpB b x 0) a st'
      | _ => none) := rfl
theorem st_17 : stp F X Y M L st (17, a, b, c, v, tab, sub, idx, pl) = (match st with
      | .inl y :: .inl x :: st' => aB (cmpB b x y) a st'
      | _ => none) := rfl
theorem st_18 : stp F X Y M L st (18, a, b, c, v, tab, sub, idx, pl) = (match st with
      | .inl x :: st' => aS x tab a st'
      | _ => none) := rfl
theorem st_19 : stp F X Y M L st (19, a, b, c, v, tab, sub, idx, pl) = (match st with
      | .inr (.inr (.inl k)) :: st' => aN (kd Y k == 10 + a) (vi (M k b) :: st') L M
      | _ => none) := rfl
theorem st_20 : stp F X Y M L st (20, a, b, c, v, tab, sub, idx, pl) = (match st with
      | .inr (.inr (.inl k)) :: st' => aN ((kd Y k == 10 + a) && rfK (F k b) (M k b)) (vr (rfO (F k b) (M k b)) :: st') L M
      | _ => none) := rfl
theorem st_21 : stp F X Y M L st (21, a, b, c, v, tab, sub, idx, pl) = (match st with
      | .inl x :: .inr (.inr (.inl k)) :: st' => aN ((kd Y k == 10 + a) && bl2 c x) st' L (stM M k b x)
      | _ => none) := rfl
theorem st_22 : stp F X Y M L st (22, a, b, c, v, tab, sub, idx, pl) = (match st with
      | .inr (.inr (.inl t)) :: .inr (.inr (.inl k)) :: st' => aN ((kd Y k == 10 + a) && (F k b == 0)) st' L (stM M k b ((t : Int) + 1))
      | _ => none) := rfl
theorem st_23 : stp F X Y M L st (23, a, b, c, v, tab, sub, idx, pl) = (match st with
      | .inl x :: .inr (.inr (.inl k)) :: st' => aN ((kd Y k == 10 + a) && bl2 c x) st' L (stM M k b x)
      | _ => none) := rfl
theorem st_24 : stp F X Y M L st (24, a, b, c, v, tab, sub, idx, pl) = (match st with
      | .inr (.inr (.inl t)) :: .inr (.inr (.inl k)) :: st' => aN ((kd Y k == 10 + a) && (F k b == 0)) st' L (stM M k b ((t : Int) + 1))
      | _ => none) := rfl
theorem st_25 : stp F X Y M L st (25, a, b, c, v, tab, sub, idx, pl) = (match st with
      | .inl x :: .inr (.inr (.inl k)) :: st' => match a with
        | 3 => aN ((kd Y k == a) && (decide (0 ≤ x) && decide (x < ln Y k))) (vl (M k x.toNat) :: st') L M
        | 4 => aN ((kd Y k == a) && (decide (0 ≤ x) && (decide (x < ln Y k) && rfK (F k x.toNat) (M k x.toNat)))) (vr (rfO (F k x.toNat) (M k x.toNat)) :: st') L M
        | _ => aN ((kd Y k == a) && (decide (0 ≤ x) && decide (x < ln Y k))) (vi (M k x.toNat) :: st') L M
      | .inl x :: .inr (.inr (.inr k)) :: st' => match a with
        | 0 => aN (decide (0 ≤ x) && decide (x < ((X k).length : Int))) (vi ((X k).getD x.toNat 0) :: st') L M
        | _ => none
      | _ => none) := rfl
theorem st_26 : stp F X Y M L st (26, a, b, c, v, tab, sub, idx, pl) = (match a with
      | 3 => match st with
        | .inr (.inl z) :: .inl x :: .inr (.inr (.inl k)) :: st' => aN ((kd Y k == a) && (decide (0 ≤ x) && decide (x < ln Y k))) st' L (stM M k x.toNat z)
        | _ => none
      | 0 => match st with
        | .inl z :: .inl x :: .inr (.inr (.inl k)) :: st' => aN ((kd Y k == a) && (decide (0 ≤ x) && decide (x < ln Y k))) st' L (stM M k x.toNat z)
        | _ => none
      | 1 => match st with
        | .inl z :: .inl x :: .inr (.inr (.inl k)) :: st' => aN ((kd Y k == a) && (decide (0 ≤ x) && decide (x < ln Y k))) st' L (stM M k x.toNat (w8 z))
        | _ => none
      | 2 => match st with
        | .inl z :: .inl x :: .inr (.inr (.inl k)) :: st' => aN ((kd Y k == a) && (decide (0 ≤ x) && (decide (x < ln Y k) && bl2 1 z))) st' L (stM M k x.toNat z)
        | _ => none
      | _ => none) := rfl
theorem st_27 : stp F X Y M L st (27, a, b, c, v, tab, sub, idx, pl) = (match a with
      | 0 => aN true (vx 0 :: st) L M
      | 1 => aN true (vx 1 :: st) L M
      | _ => none) := rfl
theorem st_28 : stp F X Y M L st (28, a, b, c, v, tab, sub, idx, pl) = (aN true (vx 2 :: st) L M) := rfl
theorem st_29 : stp F X Y M L st (29, a, b, c, v, tab, sub, idx, pl) = (match st with
      | .inr (.inr (.inr 2)) :: st' => aN true (vi ((X 2).length : Int) :: st') L M
      | _ => none) := rfl
theorem st_30 : stp F X Y M L st (30, a, b, c, v, tab, sub, idx, pl) = (match (st.take b).all (fun v => !isXv v) && (Nat.ble (catV (st.drop b)) 8 && (st.take b).length == b) with
      | true => aC (rcv sub (pl.getD 3 0) Y (st.take b).reverse) a (st.take b).reverse c (st.drop b)
      | false => none) := rfl
theorem st_31 : stp F X Y M L st (31, a, b, c, v, tab, sub, idx, pl) = (match a with
      | 0 => match st with
        | [] => aR true (vi 0)
        | _ => none
      | 1 => match st with
        | [.inl x] => aR (bl2 c x) (vi x)
        | _ => none
      | _ => match st with
        | [.inr (.inl x)] => aR true (vl x)
        | _ => none) := rfl
theorem st_32 : stp F X Y M L st (32, a, b, c, v, tab, sub, idx, pl) = (match st with
      | .inr (.inr (.inl k)) :: st' => aN true (vr k :: vr k :: st') L M
      | _ => none) := rfl
theorem st_33 : stp F X Y M L st (33, a, b, c, v, tab, sub, idx, pl) = (match st with
      | .inl x :: .inr (.inr (.inl k)) :: st' => aN true (vi x :: vr k :: vi x :: vr k :: st') L M
      | _ => none) := rfl
theorem st_34 : stp F X Y M L st (34, a, b, c, v, tab, sub, idx, pl) = (match a with
      | 0 => match st with
        | .inl _ :: st' => aN true st' L M
        | _ => none
      | _ => match st with
        | .inr (.inl _) :: st' => aN true st' L M
        | _ => none) := rfl
theorem st_35 : stp F X Y M L st (35, a, b, c, v, tab, sub, idx, pl) = (aA (vr Y.length :: st) (Y ++ [(10 + a, 0)]) (zrM M Y.length)) := rfl
theorem st_36 : stp F X Y M L st (36, a, b, c, v, tab, sub, idx, pl) = (match st with
      | .inl x :: st' => match decide (0 ≤ x) && decide (x < 200000) with
        | true => aA (vr Y.length :: st') (Y ++ [(a, x.toNat)]) (zrM M Y.length)
        | false => none
      | _ => none) := rfl
theorem st_37 : stp F X Y M L st (37, a, b, c, v, tab, sub, idx, pl) = (match st with
      | .inl y :: .inl x :: st' => match decide (0 ≤ x) && (decide (x < 200000) && (decide (0 ≤ y) && decide (y < 200000))) with
        | true => aA (vr Y.length :: st') (Y ++ ((4, x.toNat) :: List.replicate x.toNat (0, y.toNat))) (muM M Y.length x.toNat)
        | false => none
      | _ => none) := rfl
theorem st_38 : stp F X Y M L st (38, a, b, c, v, tab, sub, idx, pl) = (match st with
      | .inr (.inr (.inl _)) :: st' => match Nat.ble (catV st') 8 with
        | true => aN true st' L M
        | false => none
      | _ => none) := rfl
theorem st_39 : stp F X Y M L st (39, a, b, c, v, tab, sub, idx, pl) = (match a with
      | 0 => match st with
        | .inl x :: st' => match Nat.ble (catV st') 8 with
          | true => aN true (vi (mAbs x) :: st') L M
          | false => none
        | _ => none
      | _ => match st with
        | .inl y :: .inl x :: st' => match Nat.ble (catV st') 8 with
          | true => aN true (vi (mMM a x y) :: st') L M
          | false => none
        | _ => none) := rfl
theorem ok_0 : okI RT R i (0, a, b, c, v, tab, sub, idx, pl) = (in32b v && (match sub with
      | 0 => dn R i (.iconst v) 1
      | 1 => dn R i (.bipush v) 2 && decide ((Int8.ofInt v).toInt32 = i32 v)
      | 2 => dn R i (.sipush v) 3 && decide ((Int16.ofInt v).toInt32 = i32 v)
      | 3 => dn R i (.ldc idx) 2 && ckw (pl.getD 0 0) (.constant (rOwn R) idx (i32 v))
      | _ => dn R i (.ldc_w idx) 3 && ckw (pl.getD 0 0) (.constant (rOwn R) idx (i32 v)))) := rfl
theorem ok_1 : okI RT R i (1, a, b, c, v, tab, sub, idx, pl) = (in64b v && (match sub with
      | 0 => dn R i (.lconst (Fin.ofNat 2 idx)) 1 && decide (Int64.ofNat ((Fin.ofNat 2 idx : Fin 2) : Nat) = i64 v)
      | _ => dn R i (.ldc2_w idx) 3 && ckw (pl.getD 0 0) (.constantLong (rOwn R) idx (i64 v)))) := rfl
theorem ok_2 : okI RT R i (2, a, b, c, v, tab, sub, idx, pl) = (match sub with
      | 0 => decide (((Fin.ofNat 4 a : Fin 4) : Nat) = a) && dn R i (.iload_n (Fin.ofNat 4 a)) 1
      | _ => dn R i (.iload a) 2) := rfl
theorem ok_3 : okI RT R i (3, a, b, c, v, tab, sub, idx, pl) = (match sub with
      | 0 => decide (((Fin.ofNat 4 a : Fin 4) : Nat) = a) && dn R i (.lload_n (Fin.ofNat 4 a)) 1
      | _ => dn R i (.lload a) 2) := rfl
theorem ok_4 : okI RT R i (4, a, b, c, v, tab, sub, idx, pl) = (match sub with
      | 0 => decide (((Fin.ofNat 4 a : Fin 4) : Nat) = a) && dn R i (.aload_n (Fin.ofNat 4 a)) 1
      | _ => dn R i (.aload a) 2) := rfl
theorem ok_5 : okI RT R i (5, a, b, c, v, tab, sub, idx, pl) = (st0k R a && (match sub with
      | 0 => decide (((Fin.ofNat 4 a : Fin 4) : Nat) = a) && dn R i (.istore_n (Fin.ofNat 4 a)) 1
      | _ => dn R i (.istore a) 2)) := rfl
theorem ok_6 : okI RT R i (6, a, b, c, v, tab, sub, idx, pl) = (st0k R a && (match sub with
      | 0 => decide (((Fin.ofNat 4 a : Fin 4) : Nat) = a) && dn R i (.lstore_n (Fin.ofNat 4 a)) 1
      | _ => dn R i (.lstore a) 2)) := rfl
theorem ok_7 : okI RT R i (7, a, b, c, v, tab, sub, idx, pl) = (st0k R a && (match sub with
      | 0 => decide (((Fin.ofNat 4 a : Fin 4) : Nat) = a) && dn R i (.astore_n (Fin.ofNat 4 a)) 1
      | _ => dn R i (.astore a) 2)) := rfl
theorem ok_8 : okI RT R i (8, a, b, c, v, tab, sub, idx, pl) = (st0k R a && dn R i (.iinc a v) 3) := rfl
theorem ok_9 : okI RT R i (9, a, b, c, v, tab, sub, idx, pl) = (match a with
      | 0 => dn R i .iadd 1
      | 1 => dn R i .isub 1
      | 2 => dn R i .imul 1
      | 3 => dn R i .iand 1
      | 4 => dn R i .ior 1
      | 5 => dn R i .ixor 1
      | 6 => dn R i .ishl 1
      | 7 => dn R i .ishr 1
      | 8 => dn R i .iushr 1
      | 9 => dn R i .idiv 1
      | 10 => dn R i .irem 1
      | _ => false) := rfl
theorem ok_10 : okI RT R i (10, a, b, c, v, tab, sub, idx, pl) = (match a with
      | 0 => dn R i .ineg 1
      | _ => dn R i .i2b 1) := rfl
theorem ok_11 : okI RT R i (11, a, b, c, v, tab, sub, idx, pl) = (match a with
      | 0 => dn R i .ladd 1
      | 1 => dn R i .lsub 1
      | 2 => dn R i .lmul 1
      | 3 => dn R i .land 1
      | 4 => dn R i .lor 1
      | 5 => dn R i .ldiv 1
      | 6 => dn R i .lrem 1
      | _ => false) := rfl
theorem ok_12 : okI RT R i (12, a, b, c, v, tab, sub, idx, pl) = (match a with
      | 0 => dn R i .i2l 1
      | _ => dn R i .l2i 1) := rfl
theorem ok_13 : okI RT R i (13, a, b, c, v, tab, sub, idx, pl) = (match a with
      | 0 => dn R i .lshl 1
      | _ => dn R i .lshr 1) := rfl
theorem ok_14 : okI RT R i (14, a, b, c, v, tab, sub, idx, pl) = (dn R i .lcmp 1) := rfl
theorem ok_15 : okI RT R i (15, a, b, c, v, tab, sub, idx, pl) = (dk R i (.goto (offR R i a)) 3) := rfl
theorem ok_16 : okI RT R i (16, a, b, c, v, tab, sub, idx, pl) = (dn R i (.ifCond (cnd b) (offR R i a)) 3) := rfl
theorem ok_17 : okI RT R i (17, a, b, c, v, tab, sub, idx, pl) = (dn R i (.if_icmp (cnd b) (offR R i a)) 3) := rfl
theorem ok_18 : okI RT R i (18, a, b, c, v, tab, sub, idx, pl) = (match sub with
      | 0 => dk R i (.tableswitch (offR R i a) v (v + tab.length - 1) (tab.map fun p => offR R i p.2).toArray) idx && decide (tab.map (fun p => p.1) = (List.range tab.length).map (fun (j : Nat) => v + (j : Int)))
      | _ => dk R i (.lookupswitch (offR R i a) (tab.map fun p => (p.1, offR R i p.2)).toArray) idx && (((tab.map fun p => (p.1, offR R i p.2)).toArray.toList.zip ((tab.map fun p => (p.1, offR R i p.2)).toArray.toList.drop 1)).all (fun (a, next) => a.1 < next.1))) := rfl
theorem ok_19 : okI RT R i (19, a, b, c, v, tab, sub, idx, pl) = (fldk R idx (pl.getD 0 0) a b false true && (isIty (tcl a b) && dn R i (.getfield idx) 3)) := rfl
theorem ok_20 : okI RT R i (20, a, b, c, v, tab, sub, idx, pl) = (fldk R idx (pl.getD 0 0) a b false true && (isRty (tcl a b) && dn R i (.getfield idx) 3)) := rfl
theorem ok_21 : okI RT R i (21, a, b, c, v, tab, sub, idx, pl) = (fldk R idx (pl.getD 0 0) a b false false && ((match c with
      | 0 => decide (tcl a b = .int)
      | _ => decide (tcl a b = .boolean)) && dn R i (.putfield idx) 3)) := rfl
theorem ok_22 : okI RT R i (22, a, b, c, v, tab, sub, idx, pl) = (fldk R idx (pl.getD 0 0) a b false false && (isRty (tcl a b) && dn R i (.putfield idx) 3)) := rfl
theorem ok_23 : okI RT R i (23, a, b, c, v, tab, sub, idx, pl) = (fldk R idx (pl.getD 0 0) a b true false && ((match c with
      | 0 => decide (tcl a b = .int)
      | _ => decide (tcl a b = .boolean)) && (decide ((rY R).name = "<init>") && dn R i (.putfield idx) 3))) := rfl
theorem ok_24 : okI RT R i (24, a, b, c, v, tab, sub, idx, pl) = (fldk R idx (pl.getD 0 0) a b true false && (isRty (tcl a b) && (decide ((rY R).name = "<init>") && dn R i (.putfield idx) 3))) := rfl
theorem ok_25 : okI RT R i (25, a, b, c, v, tab, sub, idx, pl) = (match a with
      | 0 => dn R i .iaload 1
      | 1 => dn R i .baload 1
      | 2 => dn R i .baload 1
      | 3 => dn R i .laload 1
      | 4 => dn R i .aaload 1
      | _ => false) := rfl
theorem ok_26 : okI RT R i (26, a, b, c, v, tab, sub, idx, pl) = (match a with
      | 0 => dn R i .iastore 1
      | 1 => dn R i .bastore 1
      | 2 => dn R i .bastore 1
      | 3 => dn R i .lastore 1
      | _ => false) := rfl
theorem ok_27 : okI RT R i (27, a, b, c, v, tab, sub, idx, pl) = (match a with
      | 0 => dn R i (.getstatic idx) 3 && ckn (pl.getD 0 0) (.fieldLinkNest (rOwn R) idx "GhostQuarter" "STEP_X" "[I" "GhostQuarter")
      | _ => dn R i (.getstatic idx) 3 && ckn (pl.getD 0 0) (.fieldLinkNest (rOwn R) idx "GhostQuarter" "STEP_Y" "[I" "GhostQuarter")) := rfl
theorem ok_28 : okI RT R i (28, a, b, c, v, tab, sub, idx, pl) = (dn R i (.aload_n 0) 1 && decide (rOwn R = R_law0)) := rfl
theorem ok_29 : okI RT R i (29, a, b, c, v, tab, sub, idx, pl) = (dn R i .arraylength 1) := rfl
theorem ok_30 : okI RT R i (30, a, b, c, v, tab, sub, idx, pl) = (match RT[a]? with
      | some R' => decide (c = rk (rRet R') ∧ c < 3) && (decide (rOwn R' ≠ R_law0) && (clk R R' i b sub idx pl && nxk R i 3))
      | none => false) := by
  rw [← nthz_eq a RT]
  rfl
theorem ok_31 : okI RT R i (31, a, b, c, v, tab, sub, idx, pl) = (match a with
      | 0 => dk R i .return_ 1 && decide (rRet R = none)
      | 1 => dk R i .ireturn 1 && (match c with
        | 0 => decide (rRet R = some .int)
        | _ => decide (rRet R = some .boolean))
      | _ => dk R i .lreturn 1 && decide (rRet R = some .long)) := rfl
theorem ok_32 : okI RT R i (32, a, b, c, v, tab, sub, idx, pl) = (dn R i .dup 1) := rfl
theorem ok_33 : okI RT R i (33, a, b, c, v, tab, sub, idx, pl) = (dn R i .dup2 1) := rfl
theorem ok_34 : okI RT R i (34, a, b, c, v, tab, sub, idx, pl) = (match a with
      | 0 => dn R i .pop 1
      | _ => dn R i .pop2 1) := rfl
theorem ok_35 : okI RT R i (35, a, b, c, v, tab, sub, idx, pl) = (match vwCl[a]? with
      | some q => ckw (pl.getD 0 0) (.classLink (rOwn R) idx q.1) && (ckw (pl.getD 1 0) (.instantiable q.1 q.2.2) && (ckw (pl.getD 2 0) (.initialized q.1) && ((List.range q.2.2).all (fun j => isIty (tcl a j) || isRty (tcl a j)) && dn R i (.new idx) 3)))
      | none => false) := rfl
theorem ok_36 : okI RT R i (36, a, b, c, v, tab, sub, idx, pl) = (decide (a < 4) && (ckw (pl.getD 0 0) (.arrayClass (tyc a)) && dn R i (.newarray (aty a)) 2)) := rfl
theorem ok_37 : okI RT R i (37, a, b, c, v, tab, sub, idx, pl) = (ckw (pl.getD 0 0) (.classLink (rOwn R) idx ("[" ++ (FieldType.array .int).toString)) && (ckw (pl.getD 1 0) (.arrayClass .int) && dn R i (.multianewarray idx 2) 4)) := rfl
theorem ok_38 : okI RT R i (38, a, b, c, v, tab, sub, idx, pl) = (ckw (pl.getD 0 0) (.methodLink (rOwn R) idx objectInit) && (ckw (pl.getD 1 0) (.instanceMethod objectInit) && (ckw (pl.getD 2 0) (.code objectInit ⟨#[0xb1]⟩ 1 none) && dn R i (.invokespecial idx) 3))) := rfl
theorem ok_39 : okI RT R i (39, a, b, c, v, tab, sub, idx, pl) = (dn R i (.invokestatic idx) 3 && (ckw (pl.getD 1 0) (.initialized "java/lang/Math") && (match a with
      | 0 => ckw (pl.getD 0 0) (.methodLink (rOwn R) idx Lib.Math.abs.name) && (ckw (pl.getD 2 0) (.static Lib.Math.abs.name) && ckw (pl.getD 3 0) (.code Lib.Math.abs.name Lib.Math.abs.code 1 (some .int)))
      | 1 => ckw (pl.getD 0 0) (.methodLink (rOwn R) idx Lib.Math.max.name) && (ckw (pl.getD 2 0) (.static Lib.Math.max.name) && ckw (pl.getD 3 0) (.code Lib.Math.max.name Lib.Math.max.code 2 (some .int)))
      | 2 => ckw (pl.getD 0 0) (.methodLink (rOwn R) idx Lib.Math.min.name) && (ckw (pl.getD 2 0) (.static Lib.Math.min.name) && ckw (pl.getD 3 0) (.code Lib.Math.min.name Lib.Math.min.code 2 (some .int)))
      | _ => false))) := rfl
theorem st_40 (op : Nat) : stp F X Y M L st (op + 40, a, b, c, v, tab, sub, idx, pl) = none := rfl
end EQS
