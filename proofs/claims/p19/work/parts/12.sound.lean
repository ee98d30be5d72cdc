/-! PART 12: a run of our small machine is a run of the machine: one op each -/
def SV (Z : Px) (v : Vv) (w : Value) : Prop := match v with
  | .inl x => w = .int (i32 x)
  | .inr (.inl x) => w = .long (i64 x)
  | .inr (.inr (.inl k)) => w = .ref (xb Z + k)
  | .inr (.inr (.inr 0)) => ∃ t : Nat, w = .ref t ∧ va_T .int t 5 stX (fun q => xb Z ≤ q) (xs Z) (xs Z).heap
  | .inr (.inr (.inr 1)) => ∃ t : Nat, w = .ref t ∧ va_T .int t 5 stY (fun q => xb Z ≤ q) (xs Z) (xs Z).heap
  | .inr (.inr (.inr _)) => ∃ a : Nat, w = .ref a ∧ xE Z = some a
def SS (Z : Px) (vs : List Vv) (ws : List Value) : Prop := match vs, ws with
  | [], [] => True
  | v :: vs, w :: ws => SV Z v w ∧ SS Z vs ws
  | _, _ => False
theorem SS.n {Z : Px} {ws : List Value} (h : SS Z [] ws) : ws = [] := by
  cases ws with
  | nil => rfl
  | cons w ws => exact absurd h (by simp [SS])
theorem SS.u {Z : Px} {v : Vv} {vs : List Vv} {ws : List Value} (h : SS Z (v :: vs) ws) : ∃ (w : Value) (ws' : List Value), ws = w :: ws' ∧ SV Z v w ∧ SS Z vs ws' := by
  cases ws with
  | nil => exact absurd h (by simp [SS])
  | cons w ws => exact ⟨w, ws, rfl, h.1, h.2⟩
theorem SS.uI {Z : Px} {x : Int} {vs : List Vv} {ws : List Value} (h : SS Z (vi x :: vs) ws) : ∃ ws' : List Value, ws = .int (i32 x) :: ws' ∧ SS Z vs ws' := by
  obtain ⟨w, ws', h1, h2, h3⟩ := h.u
  cases h2
  exact ⟨ws', h1, h3⟩
theorem SS.uL {Z : Px} {x : Int} {vs : List Vv} {ws : List Value} (h : SS Z (vl x :: vs) ws) : ∃ ws' : List Value, ws = .long (i64 x) :: ws' ∧ SS Z vs ws' := by
  obtain ⟨w, ws', h1, h2, h3⟩ := h.u
  cases h2
  exact ⟨ws', h1, h3⟩
theorem SS.uR {Z : Px} {k : Nat} {vs : List Vv} {ws : List Value} (h : SS Z (vr k :: vs) ws) : ∃ ws' : List Value, ws = .ref (xb Z + k) :: ws' ∧ SS Z vs ws' := by
  obtain ⟨w, ws', h1, h2, h3⟩ := h.u
  cases h2
  exact ⟨ws', h1, h3⟩
theorem SS.k {Z : Px} {v : Vv} {vs : List Vv} {w : Value} {ws : List Value} (h1 : SV Z v w) (h2 : SS Z vs ws) : SS Z (v :: vs) (w :: ws) := ⟨h1, h2⟩
/-- what stands fast in a method's run -/
def Bd (sc : List Int) (R : Rec) (d : Nat) (Z : Px) : Prop := Cx Z ∧ xcc Z = rBy R ∧ xown Z = rOwn R ∧ xnL Z = rNL R ∧ xd Z = d ∧ xnm Z = (rY R).name ∧ ((rOwn R ≠ R_law0 ∧ xE Z = none) ∨ (rOwn R = R_law0 ∧ ∃ a, xE Z = some a)) ∧ ∀ a, xE Z = some a → va_X a sc.length (fun j => i32 (sc.getD j 0)) (xs Z) (xs Z).heap ∧ a < (xs Z).heap.size ∧ a < xb Z
theorem clK (ci : Nat) (q : vw_C) (h : vwCl[ci]? = some q) : clOK ci q.1 q.2.1 q.2.2 := by
  match ci, h with
  | 0, h => cases h; exact ⟨rfl, rfl, u_ws_g _ _ _ iX0, tyX0_ok, nmX0⟩
  | 1, h => cases h; exact ⟨rfl, rfl, u_ws_g _ _ _ iX1, tyX1_ok, nmX1⟩
  | 2, h => cases h; exact ⟨rfl, rfl, u_ws_g _ _ _ iX2, tyX2_ok, nmX2⟩
  | 3, h => cases h; exact ⟨rfl, rfl, u_ws_g _ _ _ iX3, tyX3_ok, nmX3⟩
  | 4, h => cases h; exact ⟨rfl, rfl, u_ws_g _ _ _ iX4, tyX4_ok, nmX4⟩
  | 5, h => cases h; exact ⟨rfl, rfl, u_ws_g _ _ _ iX6, tyX6_ok, nmX6⟩
  | 6, h => cases h; exact ⟨rfl, rfl, u_ws_g _ _ _ iX7, tyX7_ok, nmX7⟩
  | 7, h => cases h; exact ⟨rfl, rfl, u_ws_g _ _ _ iX8, tyX8_ok, nmX8⟩
  | 8, h => cases h; exact ⟨rfl, rfl, u_ws_g _ _ _ iX9, tyX9_ok, nmX9⟩
  | 9, h => cases h; exact ⟨rfl, rfl, u_ws_g _ _ _ iX10, tyX10_ok, nmX10⟩
  | 10, h => cases h; exact ⟨rfl, rfl, u_ws_g _ _ _ iX11, tyX11_ok, nmX11⟩
  | 11, h => cases h; exact ⟨rfl, rfl, u_ws_g _ _ _ iX12, tyX12_ok, nmX12⟩
  | n + 12, h => cases h
section SOUND
variable {RT : List Rec} {R : Rec} {F : Nat → Nat → Nat} {sc : List Int} {d : Nat} {Z : Px} {Y : YY} {M M' : MM} {L L' : LL} {st st' : List Vv} {sv : List Value} {i a b c sub idx : Nat} {v : Int} {tab : List (Int × Nat)} {pl : List Nat}
theorem Bd.dc (B : Bd sc R d Z) {pc : Nat} {q : Instr × Nat} (h : decode (rBy R) pc = .ok q) : decode (xcc Z) pc = .ok q := by
  rw [B.2.1]
  exact h
theorem Bd.st0 (B : Bd sc R d Z) {a : Nat} (h : st0k R a = true) : xE Z = none ∨ a ≠ 0 := by
  unfold st0k at h
  rw [Bool.or_eq_true, decide_eq_true_eq, decide_eq_true_eq] at h
  rcases B.2.2.2.2.2.2.1 with q | q
  · exact Or.inl q.2
  · exact Or.inr (h.resolve_left fun z => z q.1)
theorem okX_xar (h : (∀ z ∈ sc, in32 z) ∧ in32 (sc.length : Int)) : okX (xar sc) := fun k => by
  unfold xar
  split
  · refine ⟨fun z hz => ?_, ⟨by simp, by simp⟩⟩
    simp only [List.mem_cons, List.not_mem_nil, or_false] at hz
    constructor <;> omega
  · refine ⟨fun z hz => ?_, ⟨by simp, by simp⟩⟩
    simp only [List.mem_cons, List.not_mem_nil, or_false] at hz
    constructor <;> omega
  · exact h
theorem fldk_K {idx p a b : Nat} {fin any : Bool} (h : fldk R idx p a b fin any = true) : ∃ q, vwCl[a]? = some q ∧ b < q.2.2 ∧ (.fieldLink (rOwn R) idx (q.2.1 b).1 (q.2.1 b).2.1 (q.2.1 b).2.2.1) ∈ lw_g ∧ (any = false → (q.2.1 b).2.2.2 = fin ∧ (fin = true → (q.2.1 b).1 = rOwn R)) := by
  unfold fldk at h
  cases hv : vwCl[a]? with
  | none => rw [hv] at h; cases h
  | some q =>
    rw [hv] at h
    obtain ⟨h1, h2, h3⟩ := an3 h
    refine ⟨q, rfl, of_decide_eq_true h1, ckw_g h2, fun ha => ?_⟩
    subst ha
    rw [Bool.false_or] at h3
    refine ⟨eq_of_beq (an2 h3).1, fun hf => ?_⟩
    subst hf
    simpa using (an2 h3).2
theorem mR_rf {F : Nat → Nat → Nat} {Y : YY} {M : MM} {k j : Nat} (hI : Inv F Y M) (h : rfK (F k j) (M k j) = true) : mR (cM M) k j = some (rfO (F k j) (M k j)) := by
  rw [cM_R]
  cases hF : F k j with
  | zero =>
    rw [hF] at h
    rw [if_neg (by have := of_decide_eq_true h; omega)]
    rfl
  | succ t =>
    have h2 := (hI.2 k j t hF).1
    rw [if_neg (by omega), h2]
    show some (((t : Int) + 1).toNat - 1) = some t
    congr 1
theorem cx_hv (hty : isIty FieldType.int = true) : True := trivial
theorem nf_I {t : FieldType} {c : Nat} {x : Int} (ht : (match c with
      | 0 => decide (t = .int)
      | _ => decide (t = .boolean)) = true) (h : bl2 c x = true) : narrow t (.int (i32 x)) = .int (i32 x) ∧ fits t (.int (i32 x)) = true := by
  split at ht
  · rw [of_decide_eq_true ht]
    exact ⟨rfl, rfl⟩
  · rename_i hc
    rw [of_decide_eq_true ht]
    rcases bl2_d h with h | h | h
    · exact absurd h hc
    · subst h
      exact ⟨by decide, rfl⟩
    · subst h
      exact ⟨by decide, rfl⟩
abbrev Go (R : Rec) (Z : Px) (Y : YY) (i : Nat) (st : List Vv) (L : LL) (M : MM) : Prop := ∀ sv, SS Z st sv → G Z (Y.map shm) (rpc R i) sv (cL L) (cM M)

theorem so_0 (B : Bd sc R d Z) (hk : okI RT R i (0, a, b, c, v, tab, sub, idx, pl) = true) (hs : stp F (xar sc) Y M L st (0, a, b, c, v, tab, sub, idx, pl) = some (.inl (true, st', L', M'))) (K : Kp F Y M st L) (hS : SS Z st sv) (k : Go R Z Y (i + 1) st' L' M') : G Z (Y.map shm) (rpc R i) sv (cL L) (cM M) := by
  rw [ok_0] at hk
  have h := in_0 hs
  obtain ⟨rfl, rfl, rfl⟩ := h
  have k2 := k _ (SS.k (v := vi v) (w := .int (i32 v)) rfl hS)
  obtain ⟨h1, h2⟩ := an2 hk
  split at h2
  · obtain ⟨e1, e2⟩ := dn_d h2
    rw [e2] at k2
    exact g_iconst B.1 (B.dc e1) rfl k2
  · obtain ⟨e1, e2⟩ := dn_d (an2 h2).1
    rw [e2] at k2
    exact g_bipush B.1 (B.dc e1) (of_decide_eq_true (an2 h2).2) k2
  · obtain ⟨e1, e2⟩ := dn_d (an2 h2).1
    rw [e2] at k2
    exact g_sipush B.1 (B.dc e1) (of_decide_eq_true (an2 h2).2) k2
  · obtain ⟨e1, e2⟩ := dn_d (an2 h2).1
    rw [e2] at k2
    exact g_ldc B.1 (by rw [B.2.2.1]; exact ckw_g (an2 h2).2) (B.dc e1) k2
  · obtain ⟨e1, e2⟩ := dn_d (an2 h2).1
    rw [e2] at k2
    exact g_ldcw B.1 (by rw [B.2.2.1]; exact ckw_g (an2 h2).2) (B.dc e1) k2
theorem so_1 (B : Bd sc R d Z) (hk : okI RT R i (1, a, b, c, v, tab, sub, idx, pl) = true) (hs : stp F (xar sc) Y M L st (1, a, b, c, v, tab, sub, idx, pl) = some (.inl (true, st', L', M'))) (K : Kp F Y M st L) (hS : SS Z st sv) (k : Go R Z Y (i + 1) st' L' M') : G Z (Y.map shm) (rpc R i) sv (cL L) (cM M) := by
  rw [ok_1] at hk
  have h := in_1 hs
  obtain ⟨rfl, rfl, rfl⟩ := h
  have k2 := k _ (SS.k (v := vl v) (w := .long (i64 v)) rfl hS)
  obtain ⟨h1, h2⟩ := an2 hk
  split at h2
  · obtain ⟨e1, e2⟩ := dn_d (an2 h2).1
    rw [e2] at k2
    exact g_lconst B.1 (B.dc e1) (of_decide_eq_true (an2 h2).2) k2
  · obtain ⟨e1, e2⟩ := dn_d (an2 h2).1
    rw [e2] at k2
    exact g_ldc2 B.1 (by rw [B.2.2.1]; exact ckw_g (an2 h2).2) (B.dc e1) k2
theorem so_2 (B : Bd sc R d Z) (hk : okI RT R i (2, a, b, c, v, tab, sub, idx, pl) = true) (hs : stp F (xar sc) Y M L st (2, a, b, c, v, tab, sub, idx, pl) = some (.inl (true, st', L', M'))) (K : Kp F Y M st L) (hS : SS Z st sv) (k : Go R Z Y (i + 1) st' L' M') : G Z (Y.map shm) (rpc R i) sv (cL L) (cM M) := by
  rw [ok_2] at hk
  have h := in_2 hs
  obtain ⟨x, hx, rfl, rfl, rfl⟩ := h
  have k2 := k _ (SS.k (w := .int (i32 x)) rfl hS)
  split at hk
  · obtain ⟨e1, e2⟩ := dn_d (an2 hk).2
    rw [e2] at k2
    exact g_iload_n B.1 (B.dc e1) (of_decide_eq_true (an2 hk).1) (cL_at hx) k2
  · obtain ⟨e1, e2⟩ := dn_d hk
    rw [e2] at k2
    exact g_iload B.1 (B.dc e1) (cL_at hx) k2
theorem so_3 (B : Bd sc R d Z) (hk : okI RT R i (3, a, b, c, v, tab, sub, idx, pl) = true) (hs : stp F (xar sc) Y M L st (3, a, b, c, v, tab, sub, idx, pl) = some (.inl (true, st', L', M'))) (K : Kp F Y M st L) (hS : SS Z st sv) (k : Go R Z Y (i + 1) st' L' M') : G Z (Y.map shm) (rpc R i) sv (cL L) (cM M) := by
  rw [ok_3] at hk
  have h := in_3 hs
  obtain ⟨x, hx, rfl, rfl, rfl⟩ := h
  have k2 := k _ (SS.k (w := .long (i64 x)) rfl hS)
  split at hk
  · obtain ⟨e1, e2⟩ := dn_d (an2 hk).2
    rw [e2] at k2
    exact g_lload_n B.1 (B.dc e1) (of_decide_eq_true (an2 hk).1) (cL_at hx) k2
  · obtain ⟨e1, e2⟩ := dn_d hk
    rw [e2] at k2
    exact g_lload B.1 (B.dc e1) (cL_at hx) k2
theorem so_4 (B : Bd sc R d Z) (hk : okI RT R i (4, a, b, c, v, tab, sub, idx, pl) = true) (hs : stp F (xar sc) Y M L st (4, a, b, c, v, tab, sub, idx, pl) = some (.inl (true, st', L', M'))) (K : Kp F Y M st L) (hS : SS Z st sv) (k : Go R Z Y (i + 1) st' L' M') : G Z (Y.map shm) (rpc R i) sv (cL L) (cM M) := by
  rw [ok_4] at hk
  have h := in_4 hs
  obtain ⟨x, hx, rfl, rfl, rfl⟩ := h
  have k2 := k _ (SS.k (w := .ref (xb Z + x)) rfl hS)
  split at hk
  · obtain ⟨e1, e2⟩ := dn_d (an2 hk).2
    rw [e2] at k2
    exact g_aload_n B.1 (B.dc e1) (of_decide_eq_true (an2 hk).1) (cL_at hx) k2
  · obtain ⟨e1, e2⟩ := dn_d hk
    rw [e2] at k2
    exact g_aload B.1 (B.dc e1) (cL_at hx) k2
theorem so_5 (B : Bd sc R d Z) (hk : okI RT R i (5, a, b, c, v, tab, sub, idx, pl) = true) (hs : stp F (xar sc) Y M L st (5, a, b, c, v, tab, sub, idx, pl) = some (.inl (true, st', L', M'))) (K : Kp F Y M st L) (hS : SS Z st sv) (k : Go R Z Y (i + 1) st' L' M') : G Z (Y.map shm) (rpc R i) sv (cL L) (cM M) := by
  rw [ok_5] at hk
  have h := in_5 hs
  obtain ⟨x, s0, rfl, h1, h2, rfl, rfl, rfl⟩ := h
  obtain ⟨ws, rfl, hQ⟩ := hS.uI
  have hS := hQ
  clear hQ
  have k2 := k _ hS
  rw [cL_set] at k2
  obtain ⟨g1, g2⟩ := an2 hk
  have hE := B.st0 g1
  have ho := cL_ok K.2.2 h1
  split at g2
  · obtain ⟨e1, e2⟩ := dn_d (an2 g2).2
    rw [e2] at k2
    exact fun H lo ls a1 a2 a3 a4 => g_istore_n B.1 (B.dc e1) (of_decide_eq_true (an2 g2).1) (by rw [← a4.2.2.1, cL_len]; exact h2) ho hE k2 H lo ls a1 a2 a3 a4
  · obtain ⟨e1, e2⟩ := dn_d g2
    rw [e2] at k2
    exact fun H lo ls a1 a2 a3 a4 => g_istore B.1 (B.dc e1) (by rw [← a4.2.2.1, cL_len]; exact h2) ho hE k2 H lo ls a1 a2 a3 a4
theorem so_7 (B : Bd sc R d Z) (hk : okI RT R i (7, a, b, c, v, tab, sub, idx, pl) = true) (hs : stp F (xar sc) Y M L st (7, a, b, c, v, tab, sub, idx, pl) = some (.inl (true, st', L', M'))) (K : Kp F Y M st L) (hS : SS Z st sv) (k : Go R Z Y (i + 1) st' L' M') : G Z (Y.map shm) (rpc R i) sv (cL L) (cM M) := by
  rw [ok_7] at hk
  have h := in_7 hs
  obtain ⟨x, s0, rfl, h1, h2, rfl, rfl, rfl⟩ := h
  obtain ⟨ws, rfl, hQ⟩ := hS.uR
  have hS := hQ
  clear hQ
  have k2 := k _ hS
  rw [cL_set] at k2
  obtain ⟨g1, g2⟩ := an2 hk
  have hE := B.st0 g1
  have ho := cL_ok K.2.2 h1
  split at g2
  · obtain ⟨e1, e2⟩ := dn_d (an2 g2).2
    rw [e2] at k2
    exact fun H lo ls a1 a2 a3 a4 => g_astore_n B.1 (B.dc e1) (of_decide_eq_true (an2 g2).1) (by rw [← a4.2.2.1, cL_len]; exact h2) ho hE k2 H lo ls a1 a2 a3 a4
  · obtain ⟨e1, e2⟩ := dn_d g2
    rw [e2] at k2
    exact fun H lo ls a1 a2 a3 a4 => g_astore B.1 (B.dc e1) (by rw [← a4.2.2.1, cL_len]; exact h2) ho hE k2 H lo ls a1 a2 a3 a4
theorem so_6 (B : Bd sc R d Z) (hk : okI RT R i (6, a, b, c, v, tab, sub, idx, pl) = true) (hs : stp F (xar sc) Y M L st (6, a, b, c, v, tab, sub, idx, pl) = some (.inl (true, st', L', M'))) (K : Kp F Y M st L) (hS : SS Z st sv) (k : Go R Z Y (i + 1) st' L' M') : G Z (Y.map shm) (rpc R i) sv (cL L) (cM M) := by
  rw [ok_6] at hk
  have h := in_6 hs
  obtain ⟨x, s0, rfl, h1, h2, rfl, rfl, rfl⟩ := h
  obtain ⟨ws, rfl, hQ⟩ := hS.uL
  have hS := hQ
  clear hQ
  have k2 := k _ hS
  rw [cL_no, cL_set] at k2
  obtain ⟨g1, g2⟩ := an2 hk
  have hE := B.st0 g1
  have ho := cL_ok K.2.2 h1
  split at g2
  · obtain ⟨e1, e2⟩ := dn_d (an2 g2).2
    rw [e2] at k2
    exact fun H lo ls a1 a2 a3 a4 => g_lstore_n B.1 (B.dc e1) (of_decide_eq_true (an2 g2).1) (by rw [← a4.2.2.1, cL_len]; exact h2) ho hE k2 H lo ls a1 a2 a3 a4
  · obtain ⟨e1, e2⟩ := dn_d g2
    rw [e2] at k2
    exact fun H lo ls a1 a2 a3 a4 => g_lstore B.1 (B.dc e1) (by rw [← a4.2.2.1, cL_len]; exact h2) ho hE k2 H lo ls a1 a2 a3 a4
theorem so_8 (B : Bd sc R d Z) (hk : okI RT R i (8, a, b, c, v, tab, sub, idx, pl) = true) (hs : stp F (xar sc) Y M L st (8, a, b, c, v, tab, sub, idx, pl) = some (.inl (true, st', L', M'))) (K : Kp F Y M st L) (hS : SS Z st sv) (k : Go R Z Y (i + 1) st' L' M') : G Z (Y.map shm) (rpc R i) sv (cL L) (cM M) := by
  rw [ok_8] at hk
  have h := in_8 hs
  obtain ⟨x, hx, h1, rfl, rfl, rfl⟩ := h
  have k2 := k _ hS
  rw [cL_set] at k2
  obtain ⟨g1, g2⟩ := an2 hk
  have hE := B.st0 g1
  have ho := cL_ok K.2.2 h1
  obtain ⟨e1, e2⟩ := dn_d g2
  rw [e2] at k2
  have hl : a < L.length := (List.getElem?_eq_some_iff.mp hx).1
  exact fun H lo ls a1 a2 a3 a4 => g_iinc B.1 (B.dc e1) (cL_at hx) (i32_add x v).symm (by rw [← a4.2.2.1, cL_len]; exact hl) ho hE k2 H lo ls a1 a2 a3 a4
theorem so_9 (B : Bd sc R d Z) (hk : okI RT R i (9, a, b, c, v, tab, sub, idx, pl) = true) (hs : stp F (xar sc) Y M L st (9, a, b, c, v, tab, sub, idx, pl) = some (.inl (true, st', L', M'))) (K : Kp F Y M st L) (hS : SS Z st sv) (k : Go R Z Y (i + 1) st' L' M') : G Z (Y.map shm) (rpc R i) sv (cL L) (cM M) := by
  rw [ok_9] at hk
  have h := in_9 hs
  obtain ⟨y, x, s0, rfl, hb, rfl, rfl, rfl⟩ := h
  obtain ⟨ws, rfl, hQ⟩ := hS.uI
  have hS := hQ
  clear hQ
  obtain ⟨ws, rfl, hQ⟩ := hS.uI
  have hS := hQ
  clear hQ
  have hy := K.2.1.un.1
  have hx := K.2.1.un.2.un.1
  have k2 := k _ (SS.k (w := .int (i32 (bin a x y))) rfl hS)
  split at hk
  · obtain ⟨e1, e2⟩ := dn_d hk
    rw [e2] at k2
    refine g_iadd B.1 (B.dc e1) ?_
    rw [← i32_add]
    exact k2
  · obtain ⟨e1, e2⟩ := dn_d hk
    rw [e2] at k2
    refine g_isub B.1 (B.dc e1) ?_
    rw [← i32_sub]
    exact k2
  · obtain ⟨e1, e2⟩ := dn_d hk
    rw [e2] at k2
    refine g_imul B.1 (B.dc e1) ?_
    rw [← i32_mul]
    exact k2
  · obtain ⟨e1, e2⟩ := dn_d hk
    rw [e2] at k2
    refine g_iand B.1 (B.dc e1) ?_
    have e : i32 (bAnd x y) = _ := i32_t _
    rw [← e]
    exact k2
  · obtain ⟨e1, e2⟩ := dn_d hk
    rw [e2] at k2
    refine g_ior B.1 (B.dc e1) ?_
    have e : i32 (bOr x y) = _ := i32_t _
    rw [← e]
    exact k2
  · obtain ⟨e1, e2⟩ := dn_d hk
    rw [e2] at k2
    refine g_ixor B.1 (B.dc e1) ?_
    have e : i32 (bXor x y) = _ := i32_t _
    rw [← e]
    exact k2
  · obtain ⟨e1, e2⟩ := dn_d hk
    rw [e2] at k2
    refine g_ishl B.1 (B.dc e1) ?_
    have e : i32 (bShl x y) = _ := i32_t _
    rw [← e]
    exact k2
  · obtain ⟨e1, e2⟩ := dn_d hk
    rw [e2] at k2
    refine g_ishr B.1 (B.dc e1) ?_
    have e : i32 (bShr x y) = _ := i32_t _
    rw [← e]
    exact k2
  · obtain ⟨e1, e2⟩ := dn_d hk
    rw [e2] at k2
    refine g_iushr B.1 (B.dc e1) ?_
    have e : i32 (bUsh x y) = _ := i32_t _
    rw [← e]
    exact k2
  · obtain ⟨e1, e2⟩ := dn_d hk
    rw [e2] at k2
    refine g_idiv B.1 (B.dc e1) (ne0_i32 hy (of_decide_eq_true hb)) ?_
    rw [← i32_div hx hy]
    exact k2
  · obtain ⟨e1, e2⟩ := dn_d hk
    rw [e2] at k2
    refine g_irem B.1 (B.dc e1) (ne0_i32 hy (of_decide_eq_true hb)) ?_
    rw [← i32_rem hx hy]
    exact k2
  · cases hk
theorem so_10 (B : Bd sc R d Z) (hk : okI RT R i (10, a, b, c, v, tab, sub, idx, pl) = true) (hs : stp F (xar sc) Y M L st (10, a, b, c, v, tab, sub, idx, pl) = some (.inl (true, st', L', M'))) (K : Kp F Y M st L) (hS : SS Z st sv) (k : Go R Z Y (i + 1) st' L' M') : G Z (Y.map shm) (rpc R i) sv (cL L) (cM M) := by
  rw [ok_10] at hk
  have h := in_10 hs
  obtain ⟨x, s0, rfl, h, rfl, rfl⟩ := h
  obtain ⟨ws, rfl, hQ⟩ := hS.uI
  have hS := hQ
  clear hQ
  have hx := K.2.1.un.1
  rcases h with ⟨rfl, rfl⟩ | ⟨ha, rfl⟩
  · have k2 := k _ (SS.k (w := .int (i32 (w32 (-x)))) rfl hS)
    obtain ⟨e1, e2⟩ := dn_d hk
    rw [e2] at k2
    refine g_ineg B.1 (B.dc e1) ?_
    rw [← i32_neg]
    exact k2
  · have k2 := k _ (SS.k (w := .int (i32 (w8 x))) rfl hS)
    split at hk
    · exact absurd rfl ha
    · obtain ⟨e1, e2⟩ := dn_d hk
      rw [e2] at k2
      refine g_i2b B.1 (B.dc e1) ?_
      rw [← i32_i2b hx]
      exact k2
theorem so_11 (B : Bd sc R d Z) (hk : okI RT R i (11, a, b, c, v, tab, sub, idx, pl) = true) (hs : stp F (xar sc) Y M L st (11, a, b, c, v, tab, sub, idx, pl) = some (.inl (true, st', L', M'))) (K : Kp F Y M st L) (hS : SS Z st sv) (k : Go R Z Y (i + 1) st' L' M') : G Z (Y.map shm) (rpc R i) sv (cL L) (cM M) := by
  rw [ok_11] at hk
  have h := in_11 hs
  obtain ⟨y, x, s0, rfl, hb, rfl, rfl, rfl⟩ := h
  obtain ⟨ws, rfl, hQ⟩ := hS.uL
  have hS := hQ
  clear hQ
  obtain ⟨ws, rfl, hQ⟩ := hS.uL
  have hS := hQ
  clear hQ
  have hy := K.2.1.un.1
  have hx := K.2.1.un.2.un.1
  have k2 := k _ (SS.k (w := .long (i64 (lbn a x y))) rfl hS)
  split at hk
  · obtain ⟨e1, e2⟩ := dn_d hk
    rw [e2] at k2
    refine g_ladd B.1 (B.dc e1) ?_
    rw [← i64_add]
    exact k2
  · obtain ⟨e1, e2⟩ := dn_d hk
    rw [e2] at k2
    refine g_lsub B.1 (B.dc e1) ?_
    rw [← i64_sub]
    exact k2
  · obtain ⟨e1, e2⟩ := dn_d hk
    rw [e2] at k2
    refine g_lmul B.1 (B.dc e1) ?_
    rw [← i64_mul]
    exact k2
  · obtain ⟨e1, e2⟩ := dn_d hk
    rw [e2] at k2
    refine g_land B.1 (B.dc e1) ?_
    have e : i64 (bAndL x y) = _ := i64_t _
    rw [← e]
    exact k2
  · obtain ⟨e1, e2⟩ := dn_d hk
    rw [e2] at k2
    refine g_lor B.1 (B.dc e1) ?_
    have e : i64 (bOrL x y) = _ := i64_t _
    rw [← e]
    exact k2
  · obtain ⟨e1, e2⟩ := dn_d hk
    rw [e2] at k2
    refine g_ldiv B.1 (B.dc e1) (ne0_i64 hy (of_decide_eq_true hb)) ?_
    rw [← i64_div hx hy]
    exact k2
  · obtain ⟨e1, e2⟩ := dn_d hk
    rw [e2] at k2
    refine g_lrem B.1 (B.dc e1) (ne0_i64 hy (of_decide_eq_true hb)) ?_
    rw [← i64_rem hx hy]
    exact k2
  · cases hk
theorem so_12 (B : Bd sc R d Z) (hk : okI RT R i (12, a, b, c, v, tab, sub, idx, pl) = true) (hs : stp F (xar sc) Y M L st (12, a, b, c, v, tab, sub, idx, pl) = some (.inl (true, st', L', M'))) (K : Kp F Y M st L) (hS : SS Z st sv) (k : Go R Z Y (i + 1) st' L' M') : G Z (Y.map shm) (rpc R i) sv (cL L) (cM M) := by
  rw [ok_12] at hk
  have h := in_12 hs
  obtain ⟨x, s0, h, rfl, rfl⟩ := h
  rcases h with ⟨rfl, rfl, rfl⟩ | ⟨ha, rfl, rfl⟩
  · obtain ⟨ws, rfl, hQ⟩ := hS.uI
    have hS := hQ
    clear hQ
    have hx := K.2.1.un.1
    have k2 := k _ (SS.k (w := .long (i64 x)) rfl hS)
    obtain ⟨e1, e2⟩ := dn_d hk
    rw [e2] at k2
    refine g_i2l B.1 (B.dc e1) ?_
    rw [← i64_i2l hx]
    exact k2
  · obtain ⟨ws, rfl, hQ⟩ := hS.uL
    have hS := hQ
    clear hQ
    have hx := K.2.1.un.1
    have k2 := k _ (SS.k (w := .int (i32 (w32 x))) rfl hS)
    split at hk
    · exact absurd rfl ha
    · obtain ⟨e1, e2⟩ := dn_d hk
      rw [e2] at k2
      refine g_l2i B.1 (B.dc e1) ?_
      rw [← i32_l2i hx]
      exact k2
theorem so_13 (B : Bd sc R d Z) (hk : okI RT R i (13, a, b, c, v, tab, sub, idx, pl) = true) (hs : stp F (xar sc) Y M L st (13, a, b, c, v, tab, sub, idx, pl) = some (.inl (true, st', L', M'))) (K : Kp F Y M st L) (hS : SS Z st sv) (k : Go R Z Y (i + 1) st' L' M') : G Z (Y.map shm) (rpc R i) sv (cL L) (cM M) := by
  rw [ok_13] at hk
  have h := in_13 hs
  obtain ⟨y, x, s0, rfl, h, rfl, rfl⟩ := h
  obtain ⟨ws, rfl, hQ⟩ := hS.uI
  have hS := hQ
  clear hQ
  obtain ⟨ws, rfl, hQ⟩ := hS.uL
  have hS := hQ
  clear hQ
  rcases h with ⟨rfl, rfl⟩ | ⟨ha, rfl⟩
  · have k2 := k _ (SS.k (w := .long (i64 (bShlL x y))) rfl hS)
    obtain ⟨e1, e2⟩ := dn_d hk
    rw [e2] at k2
    refine g_lshl B.1 (B.dc e1) ?_
    have e : i64 (bShlL x y) = _ := i64_t _
    rw [← e]
    exact k2
  · have k2 := k _ (SS.k (w := .long (i64 (bShrL x y))) rfl hS)
    split at hk
    · exact absurd rfl ha
    · obtain ⟨e1, e2⟩ := dn_d hk
      rw [e2] at k2
      refine g_lshr B.1 (B.dc e1) ?_
      have e : i64 (bShrL x y) = _ := i64_t _
      rw [← e]
      exact k2
theorem so_14 (B : Bd sc R d Z) (hk : okI RT R i (14, a, b, c, v, tab, sub, idx, pl) = true) (hs : stp F (xar sc) Y M L st (14, a, b, c, v, tab, sub, idx, pl) = some (.inl (true, st', L', M'))) (K : Kp F Y M st L) (hS : SS Z st sv) (k : Go R Z Y (i + 1) st' L' M') : G Z (Y.map shm) (rpc R i) sv (cL L) (cM M) := by
  rw [ok_14] at hk
  have h := in_14 hs
  obtain ⟨y, x, s0, rfl, rfl, rfl, rfl⟩ := h
  obtain ⟨ws, rfl, hQ⟩ := hS.uL
  have hS := hQ
  clear hQ
  obtain ⟨ws, rfl, hQ⟩ := hS.uL
  have hS := hQ
  clear hQ
  have k2 := k _ (SS.k (w := .int (i32 (lcm3 x y))) rfl hS)
  obtain ⟨e1, e2⟩ := dn_d hk
  rw [e2] at k2
  refine g_lcmp B.1 (B.dc e1) ?_
  rw [cmp_i64 K.2.1.un.2.un.1 K.2.1.un.1]
  exact k2
theorem so_19 (B : Bd sc R d Z) (hk : okI RT R i (19, a, b, c, v, tab, sub, idx, pl) = true) (hs : stp F (xar sc) Y M L st (19, a, b, c, v, tab, sub, idx, pl) = some (.inl (true, st', L', M'))) (K : Kp F Y M st L) (hS : SS Z st sv) (k : Go R Z Y (i + 1) st' L' M') : G Z (Y.map shm) (rpc R i) sv (cL L) (cM M) := by
  rw [ok_19] at hk
  have h := in_19 hs
  obtain ⟨k', s0, rfl, hkd, rfl, rfl, rfl⟩ := h
  obtain ⟨ws, rfl, hQ⟩ := hS.uR
  have hS := hQ
  clear hQ
  obtain ⟨g1, g2, g3⟩ := an3 hk
  have ha := fldk_ty g1
  obtain ⟨n, hn⟩ := kd_ge (by omega) hkd
  obtain ⟨q, q1, q2, q3, q4⟩ := fldk_K g1
  have k2 := k _ (SS.k (w := .int (i32 (M' k' b))) rfl hS)
  obtain ⟨e1, e2⟩ := dn_d g3
  rw [e2] at k2
  exact g_getI B.1 (clK a q q1) (shm_f hn) q2 (by rw [B.2.2.1]; exact q3) g2 (B.dc e1) k2
theorem so_20 (B : Bd sc R d Z) (hk : okI RT R i (20, a, b, c, v, tab, sub, idx, pl) = true) (hs : stp F (xar sc) Y M L st (20, a, b, c, v, tab, sub, idx, pl) = some (.inl (true, st', L', M'))) (K : Kp F Y M st L) (hS : SS Z st sv) (k : Go R Z Y (i + 1) st' L' M') : G Z (Y.map shm) (rpc R i) sv (cL L) (cM M) := by
  rw [ok_20] at hk
  have h := in_20 hs
  obtain ⟨k', s0, rfl, hkd, hrf, rfl, rfl, rfl⟩ := h
  obtain ⟨ws, rfl, hQ⟩ := hS.uR
  have hS := hQ
  clear hQ
  obtain ⟨g1, g2, g3⟩ := an3 hk
  have ha := fldk_ty g1
  obtain ⟨n, hn⟩ := kd_ge (by omega) hkd
  obtain ⟨q, q1, q2, q3, q4⟩ := fldk_K g1
  have k2 := k _ (SS.k (v := vr _) (w := .ref (xb Z + rfO (F k' b) (M' k' b))) rfl hS)
  obtain ⟨e1, e2⟩ := dn_d g3
  rw [e2] at k2
  exact g_getR B.1 (clK a q q1) (shm_f hn) q2 (by rw [B.2.2.1]; exact q3) g2 (mR_rf K.1 hrf) (B.dc e1) k2
theorem so_21 (B : Bd sc R d Z) (hk : okI RT R i (21, a, b, c, v, tab, sub, idx, pl) = true) (hs : stp F (xar sc) Y M L st (21, a, b, c, v, tab, sub, idx, pl) = some (.inl (true, st', L', M'))) (K : Kp F Y M st L) (hS : SS Z st sv) (k : Go R Z Y (i + 1) st' L' M') : G Z (Y.map shm) (rpc R i) sv (cL L) (cM M) := by
  rw [ok_21] at hk
  have h := in_21 hs
  obtain ⟨x, k', s0, rfl, hkd, hb, rfl, rfl, rfl⟩ := h
  obtain ⟨ws, rfl, hQ⟩ := hS.uI
  have hS := hQ
  clear hQ
  obtain ⟨ws, rfl, hQ⟩ := hS.uR
  have hS := hQ
  clear hQ
  obtain ⟨g1, g2, g3⟩ := an3 hk
  have ha := fldk_ty g1
  obtain ⟨n, hn⟩ := kd_ge (by omega) hkd
  obtain ⟨q, q1, q2, q3, q4⟩ := fldk_K g1
  have k2 := (k _ hS).cg (wI_fld (b := xb Z) (cA := xA Z) (M := M) (k := k') (j := b) (x := x) (shm_f hn) (ty_c g2))
  obtain ⟨e1, e2⟩ := dn_d g3
  rw [e2] at k2
  exact g_putI B.1 (clK a q q1) (shm_f hn) q2 (by rw [B.2.2.1]; exact q3) (q4 rfl).1 (ty_c g2) (nf_I g2 hb) (B.dc e1) k2
theorem so_23 (B : Bd sc R d Z) (hk : okI RT R i (23, a, b, c, v, tab, sub, idx, pl) = true) (hs : stp F (xar sc) Y M L st (23, a, b, c, v, tab, sub, idx, pl) = some (.inl (true, st', L', M'))) (K : Kp F Y M st L) (hS : SS Z st sv) (k : Go R Z Y (i + 1) st' L' M') : G Z (Y.map shm) (rpc R i) sv (cL L) (cM M) := by
  rw [ok_23] at hk
  have h := in_23 hs
  obtain ⟨x, k', s0, rfl, hkd, hb, rfl, rfl, rfl⟩ := h
  obtain ⟨ws, rfl, hQ⟩ := hS.uI
  have hS := hQ
  clear hQ
  obtain ⟨ws, rfl, hQ⟩ := hS.uR
  have hS := hQ
  clear hQ
  obtain ⟨g1, g2, g3⟩ := an3 hk
  have ha := fldk_ty g1
  obtain ⟨n, hn⟩ := kd_ge (by omega) hkd
  obtain ⟨q, q1, q2, q3, q4⟩ := fldk_K g1
  have k2 := (k _ hS).cg (wI_fld (b := xb Z) (cA := xA Z) (M := M) (k := k') (j := b) (x := x) (shm_f hn) (ty_c g2))
  obtain ⟨e1, e2⟩ := dn_d (an2 g3).2
  rw [e2] at k2
  exact g_putFI B.1 (clK a q q1) (shm_f hn) q2 (by rw [B.2.2.1]; exact q3) (q4 rfl).1 (B.2.2.2.2.2.1.trans (of_decide_eq_true (an2 g3).1)) (by rw [B.2.2.1]; exact (q4 rfl).2 rfl) (ty_c g2) (nf_I g2 hb) (B.dc e1) k2
theorem so_22 (B : Bd sc R d Z) (hk : okI RT R i (22, a, b, c, v, tab, sub, idx, pl) = true) (hs : stp F (xar sc) Y M L st (22, a, b, c, v, tab, sub, idx, pl) = some (.inl (true, st', L', M'))) (K : Kp F Y M st L) (hS : SS Z st sv) (k : Go R Z Y (i + 1) st' L' M') : G Z (Y.map shm) (rpc R i) sv (cL L) (cM M) := by
  rw [ok_22] at hk
  have h := in_22 hs
  obtain ⟨t, k', s0, rfl, hkd, hF, rfl, rfl, rfl⟩ := h
  obtain ⟨ws, rfl, hQ⟩ := hS.uR
  have hS := hQ
  clear hQ
  obtain ⟨ws, rfl, hQ⟩ := hS.uR
  have hS := hQ
  clear hQ
  obtain ⟨g1, g2, g3⟩ := an3 hk
  have ha := fldk_ty g1
  obtain ⟨n, hn⟩ := kd_ge (by omega) hkd
  obtain ⟨q, q1, q2, q3, q4⟩ := fldk_K g1
  have k2 := (k _ hS).cg (wR_fld (b := xb Z) (cA := xA Z) (M := M) (k := k') (j := b) (t := t) (shm_f hn) g2)
  obtain ⟨e1, e2⟩ := dn_d g3
  rw [e2] at k2
  exact g_putR B.1 (clK a q q1) (shm_f hn) q2 (by rw [B.2.2.1]; exact q3) (q4 rfl).1 g2 (B.dc e1) k2
theorem so_24 (B : Bd sc R d Z) (hk : okI RT R i (24, a, b, c, v, tab, sub, idx, pl) = true) (hs : stp F (xar sc) Y M L st (24, a, b, c, v, tab, sub, idx, pl) = some (.inl (true, st', L', M'))) (K : Kp F Y M st L) (hS : SS Z st sv) (k : Go R Z Y (i + 1) st' L' M') : G Z (Y.map shm) (rpc R i) sv (cL L) (cM M) := by
  rw [ok_24] at hk
  have h := in_24 hs
  obtain ⟨t, k', s0, rfl, hkd, hF, rfl, rfl, rfl⟩ := h
  obtain ⟨ws, rfl, hQ⟩ := hS.uR
  have hS := hQ
  clear hQ
  obtain ⟨ws, rfl, hQ⟩ := hS.uR
  have hS := hQ
  clear hQ
  obtain ⟨g1, g2, g3⟩ := an3 hk
  have ha := fldk_ty g1
  obtain ⟨n, hn⟩ := kd_ge (by omega) hkd
  obtain ⟨q, q1, q2, q3, q4⟩ := fldk_K g1
  have k2 := (k _ hS).cg (wR_fld (b := xb Z) (cA := xA Z) (M := M) (k := k') (j := b) (t := t) (shm_f hn) g2)
  obtain ⟨e1, e2⟩ := dn_d (an2 g3).2
  rw [e2] at k2
  exact g_putFR B.1 (clK a q q1) (shm_f hn) q2 (by rw [B.2.2.1]; exact q3) (q4 rfl).1 (B.2.2.2.2.2.1.trans (of_decide_eq_true (an2 g3).1)) (by rw [B.2.2.1]; exact (q4 rfl).2 rfl) g2 (B.dc e1) k2
theorem so_25 (B : Bd sc R d Z) (hk : okI RT R i (25, a, b, c, v, tab, sub, idx, pl) = true) (hs : stp F (xar sc) Y M L st (25, a, b, c, v, tab, sub, idx, pl) = some (.inl (true, st', L', M'))) (K : Kp F Y M st L) (hS : SS Z st sv) (k : Go R Z Y (i + 1) st' L' M') : G Z (Y.map shm) (rpc R i) sv (cL L) (cM M) := by
  rw [ok_25] at hk
  have h := in_25 hs
  rcases h with ⟨x, k', s0, rfl, hkd, h0, h1, rfl, rfl, h⟩ | ⟨x, k', s0, rfl, rfl, h0, h1, rfl, rfl, rfl⟩
  · obtain ⟨ws, rfl, hQ⟩ := hS.uI
    have hS := hQ
    clear hQ
    obtain ⟨ws, rfl, hQ⟩ := hS.uR
    have hS := hQ
    clear hQ
    have hx := K.2.1.un.1
    rcases h with ⟨rfl, rfl⟩ | ⟨rfl, hrf, rfl⟩ | ⟨h3, h4, rfl⟩
    · obtain ⟨n, hn⟩ := kd_ge (by decide) hkd
      have hv := vp_i32 hx h0 (by rw [← ln_of hn]; exact h1)
      have k2 := k _ (SS.k (v := vl _) (w := .long (i64 (M' k' x.toNat))) rfl hS)
      obtain ⟨e1, e2⟩ := dn_d hk
      rw [e2] at k2
      refine g_lald B.1 (shm_a (by decide) hn) hv (B.dc e1) ?_
      rw [cM_L, nat_i32 hx]
      exact k2
    · obtain ⟨n, hn⟩ := kd_ge (by decide) hkd
      have hv := vp_i32 hx h0 (by rw [← ln_of hn]; exact h1)
      have k2 := k _ (SS.k (v := vr _) (w := .ref (xb Z + rfO (F k' x.toNat) (M' k' x.toNat))) rfl hS)
      obtain ⟨e1, e2⟩ := dn_d hk
      rw [e2] at k2
      refine g_aald B.1 (shm_a (by decide) hn) hv ?_ (B.dc e1) k2
      rw [nat_i32 hx]
      exact mR_rf K.1 hrf
    · have k2 := k _ (SS.k (v := vi _) (w := .int (i32 (M' k' x.toNat))) rfl hS)
      split at hk
      · obtain ⟨n, hn⟩ := kd_ge (by decide) hkd
        have hv := vp_i32 hx h0 (by rw [← ln_of hn]; exact h1)
        obtain ⟨e1, e2⟩ := dn_d hk
        rw [e2] at k2
        refine g_iald B.1 (shm_a (by decide) hn) hv (B.dc e1) ?_
        rw [cM_I, nat_i32 hx]
        exact k2
      · obtain ⟨n, hn⟩ := kd_ge (by decide) hkd
        have hv := vp_i32 hx h0 (by rw [← ln_of hn]; exact h1)
        obtain ⟨e1, e2⟩ := dn_d hk
        rw [e2] at k2
        refine g_bald B.1 (shm_a (by decide) hn) hv (B.dc e1) ?_
        rw [cM_I, nat_i32 hx]
        exact k2
      · obtain ⟨n, hn⟩ := kd_ge (by decide) hkd
        have hv := vp_i32 hx h0 (by rw [← ln_of hn]; exact h1)
        obtain ⟨e1, e2⟩ := dn_d hk
        rw [e2] at k2
        refine g_zald B.1 (shm_a (by decide) hn) hv (B.dc e1) ?_
        rw [cM_I, nat_i32 hx]
        exact k2
      · exact absurd rfl h3
      · exact absurd rfl h4
      · cases hk
  · obtain ⟨ws, rfl, hQ⟩ := hS.uI
    have hS := hQ
    clear hQ
    obtain ⟨w, ws, rfl, hw, hQ⟩ := hS.u
    have hS := hQ
    clear hQ
    have hx := K.2.1.un.1
    have k2 := k _ (SS.k (v := vi _) (w := .int (i32 ((xar sc k').getD x.toNat 0))) rfl hS)
    obtain ⟨e1, e2⟩ := dn_d hk
    rw [e2] at k2
    match k', hw, h1, k2 with
    | 0, hw, h1, k2 =>
      obtain ⟨t, rfl, ht⟩ := hw
      have hx5 : x = 0 ∨ x = 1 ∨ x = 2 ∨ x = 3 ∨ x = 4 := by
        have : x < 5 := h1
        omega
      refine g_sti B.1 ht (vp_i32 hx h0 h1) ?_ (B.dc e1) k2
      rw [nat_i32 hx]
      rcases hx5 with rfl | rfl | rfl | rfl | rfl <;> exact congrArg Value.int (show stpX _ = i32 (([0, 1, 0, -1, 0] : List Int).getD _ 0) by decide)
    | 1, hw, h1, k2 =>
      obtain ⟨t, rfl, ht⟩ := hw
      have hx5 : x = 0 ∨ x = 1 ∨ x = 2 ∨ x = 3 ∨ x = 4 := by
        have : x < 5 := h1
        omega
      refine g_sti B.1 ht (vp_i32 hx h0 h1) ?_ (B.dc e1) k2
      rw [nat_i32 hx]
      rcases hx5 with rfl | rfl | rfl | rfl | rfl <;> exact congrArg Value.int (show stpY _ = i32 (([1, 0, -1, 0, 0] : List Int).getD _ 0) by decide)
    | q + 2, hw, h1, k2 =>
      obtain ⟨ad, rfl, hE⟩ := hw
      obtain ⟨hX, hA⟩ := B.2.2.2.2.2.2.2 ad hE
      refine g_aldX B.1 hX hA (vp_i32 hx h0 h1) (B.dc e1) ?_
      rw [nat_i32 hx]
      exact k2
theorem so_26 (B : Bd sc R d Z) (hk : okI RT R i (26, a, b, c, v, tab, sub, idx, pl) = true) (hs : stp F (xar sc) Y M L st (26, a, b, c, v, tab, sub, idx, pl) = some (.inl (true, st', L', M'))) (K : Kp F Y M st L) (hS : SS Z st sv) (k : Go R Z Y (i + 1) st' L' M') : G Z (Y.map shm) (rpc R i) sv (cL L) (cM M) := by
  rw [ok_26] at hk
  have h := in_26 hs
  obtain ⟨z, x, k', s0, w, hkd, h0, h1, rfl, rfl, rfl, h⟩ := h
  rcases h with ⟨rfl, rfl, rfl⟩ | ⟨rfl, rfl, rfl⟩ | ⟨rfl, rfl, rfl⟩ | ⟨rfl, rfl, rfl, hb⟩
  · obtain ⟨n, hn⟩ := kd_ge (by decide) hkd
    obtain ⟨ws, rfl, hQ⟩ := hS.uL
    have hS := hQ
    clear hQ
    obtain ⟨ws, rfl, hQ⟩ := hS.uI
    have hS := hQ
    clear hQ
    obtain ⟨ws, rfl, hQ⟩ := hS.uR
    have hS := hQ
    clear hQ
    have hx := K.2.1.un.2.un.1
    have hv := vp_i32 hx h0 (by rw [← ln_of hn]; exact h1)
    obtain ⟨e1, e2⟩ := dn_d hk
    have k2 := (k _ hS).cg (wL_arr (b := xb Z) (cA := xA Z) (M := M) (k := k') (j := x.toNat) (x := w) (shm_a (by decide) hn))
    rw [e2] at k2
    refine g_last B.1 (shm_a (by decide) hn) hv (B.dc e1) ?_
    rw [nat_i32 hx]
    exact k2
  · obtain ⟨n, hn⟩ := kd_ge (by decide) hkd
    obtain ⟨ws, rfl, hQ⟩ := hS.uI
    have hS := hQ
    clear hQ
    obtain ⟨ws, rfl, hQ⟩ := hS.uI
    have hS := hQ
    clear hQ
    obtain ⟨ws, rfl, hQ⟩ := hS.uR
    have hS := hQ
    clear hQ
    have hx := K.2.1.un.2.un.1
    have hv := vp_i32 hx h0 (by rw [← ln_of hn]; exact h1)
    obtain ⟨e1, e2⟩ := dn_d hk
    have k2 := (k _ hS).cg (wI_arr (b := xb Z) (cA := xA Z) (M := M) (k := k') (j := x.toNat) (x := w) (shm_a (by decide) hn) rfl)
    rw [e2] at k2
    refine g_iast B.1 (shm_a (by decide) hn) hv (B.dc e1) ?_
    rw [nat_i32 hx]
    exact k2
  · obtain ⟨n, hn⟩ := kd_ge (by decide) hkd
    obtain ⟨ws, rfl, hQ⟩ := hS.uI
    have hS := hQ
    clear hQ
    obtain ⟨ws, rfl, hQ⟩ := hS.uI
    have hS := hQ
    clear hQ
    obtain ⟨ws, rfl, hQ⟩ := hS.uR
    have hS := hQ
    clear hQ
    have hx := K.2.1.un.2.un.1
    have hv := vp_i32 hx h0 (by rw [← ln_of hn]; exact h1)
    obtain ⟨e1, e2⟩ := dn_d hk
    have hz := K.2.1.un.1
    have k2 := (k _ hS).cg (wI_arr (b := xb Z) (cA := xA Z) (M := M) (k := k') (j := x.toNat) (x := w8 z) (shm_a (by decide) hn) rfl)
    rw [e2] at k2
    refine g_bast B.1 (shm_a (by decide) hn) hv (B.dc e1) ?_
    rw [nat_i32 hx, show vp_nar .byte (i32 z) = i32 (w8 z) by rw [i32_i2b hz]; rfl]
    exact k2
  · obtain ⟨n, hn⟩ := kd_ge (by decide) hkd
    obtain ⟨ws, rfl, hQ⟩ := hS.uI
    have hS := hQ
    clear hQ
    obtain ⟨ws, rfl, hQ⟩ := hS.uI
    have hS := hQ
    clear hQ
    obtain ⟨ws, rfl, hQ⟩ := hS.uR
    have hS := hQ
    clear hQ
    have hx := K.2.1.un.2.un.1
    have hv := vp_i32 hx h0 (by rw [← ln_of hn]; exact h1)
    obtain ⟨e1, e2⟩ := dn_d hk
    have k2 := (k _ hS).cg (wI_arr (b := xb Z) (cA := xA Z) (M := M) (k := k') (j := x.toNat) (x := w) (shm_a (by decide) hn) rfl)
    rw [e2] at k2
    refine g_zast B.1 (shm_a (by decide) hn) hv (B.dc e1) ?_
    have hw : vp_nar .boolean (i32 w) = i32 w := by
      rcases bl2_d hb with q | q | q
      · cases q
      · subst q
        decide
      · subst q
        decide
    rw [nat_i32 hx, hw]
    exact k2
theorem so_27 (B : Bd sc R d Z) (hk : okI RT R i (27, a, b, c, v, tab, sub, idx, pl) = true) (hs : stp F (xar sc) Y M L st (27, a, b, c, v, tab, sub, idx, pl) = some (.inl (true, st', L', M'))) (K : Kp F Y M st L) (hS : SS Z st sv) (k : Go R Z Y (i + 1) st' L' M') : G Z (Y.map shm) (rpc R i) sv (cL L) (cM M) := by
  rw [ok_27] at hk
  have h := in_27 hs
  obtain ⟨h, rfl, rfl, rfl⟩ := h
  rcases h with rfl | rfl
  · obtain ⟨e1, e2⟩ := dn_d (an2 hk).1
    refine g_stX B.1 (by rw [B.2.2.1]; exact ckn_n (an2 hk).2) (B.dc e1) (fun t ht => ?_)
    have k2 := k (.ref t :: sv) (SS.k (v := vx 0) ⟨t, rfl, ht⟩ hS)
    rw [e2] at k2
    exact k2
  · obtain ⟨e1, e2⟩ := dn_d (an2 hk).1
    refine g_stY B.1 (by rw [B.2.2.1]; exact ckn_n (an2 hk).2) (B.dc e1) (fun t ht => ?_)
    have k2 := k (.ref t :: sv) (SS.k (v := vx 1) ⟨t, rfl, ht⟩ hS)
    rw [e2] at k2
    exact k2
theorem so_28 (B : Bd sc R d Z) (hk : okI RT R i (28, a, b, c, v, tab, sub, idx, pl) = true) (hs : stp F (xar sc) Y M L st (28, a, b, c, v, tab, sub, idx, pl) = some (.inl (true, st', L', M'))) (K : Kp F Y M st L) (hS : SS Z st sv) (k : Go R Z Y (i + 1) st' L' M') : G Z (Y.map shm) (rpc R i) sv (cL L) (cM M) := by
  rw [ok_28] at hk
  have h := in_28 hs
  obtain ⟨rfl, rfl, rfl⟩ := h
  obtain ⟨e1, e2⟩ := dn_d (an2 hk).1
  have ho := of_decide_eq_true (an2 hk).2
  rcases B.2.2.2.2.2.2.1 with q | ⟨-, ad, hE⟩
  · exact absurd ho q.1
  · have k2 := k (.ref ad :: sv) (SS.k (v := vx 2) ⟨ad, rfl, hE⟩ hS)
    rw [e2] at k2
    exact g_ldX B.1 hE (B.dc e1) k2
theorem so_29 (B : Bd sc R d Z) (hk : okI RT R i (29, a, b, c, v, tab, sub, idx, pl) = true) (hs : stp F (xar sc) Y M L st (29, a, b, c, v, tab, sub, idx, pl) = some (.inl (true, st', L', M'))) (K : Kp F Y M st L) (hS : SS Z st sv) (k : Go R Z Y (i + 1) st' L' M') : G Z (Y.map shm) (rpc R i) sv (cL L) (cM M) := by
  rw [ok_29] at hk
  have h := in_29 hs
  obtain ⟨s0, rfl, rfl, rfl, rfl⟩ := h
  obtain ⟨w, ws, rfl, ⟨ad, rfl, hE⟩, hQ⟩ := hS.u
  have hS := hQ
  clear hQ
  obtain ⟨hX, hA⟩ := B.2.2.2.2.2.2.2 ad hE
  obtain ⟨e1, e2⟩ := dn_d hk
  have k2 := k _ (SS.k (v := vi _) (w := .int (i32 ((xar sc 2).length : Int))) rfl hS)
  rw [e2] at k2
  refine g_alenX B.1 hX hA (B.dc e1) ?_
  rw [show Int32.ofNat sc.length = i32 (sc.length : Int) from (Int32.ofInt_eq_ofNat).symm]
  exact k2
theorem so_32 (B : Bd sc R d Z) (hk : okI RT R i (32, a, b, c, v, tab, sub, idx, pl) = true) (hs : stp F (xar sc) Y M L st (32, a, b, c, v, tab, sub, idx, pl) = some (.inl (true, st', L', M'))) (K : Kp F Y M st L) (hS : SS Z st sv) (k : Go R Z Y (i + 1) st' L' M') : G Z (Y.map shm) (rpc R i) sv (cL L) (cM M) := by
  rw [ok_32] at hk
  have h := in_32 hs
  obtain ⟨k', s0, rfl, rfl, rfl, rfl⟩ := h
  obtain ⟨ws, rfl, hQ⟩ := hS.uR
  have hS := hQ
  clear hQ
  obtain ⟨e1, e2⟩ := dn_d hk
  have k2 := k _ (SS.k (v := vr k') rfl (SS.k (v := vr k') rfl hS))
  rw [e2] at k2
  exact g_dup B.1 (B.dc e1) k2
theorem so_33 (B : Bd sc R d Z) (hk : okI RT R i (33, a, b, c, v, tab, sub, idx, pl) = true) (hs : stp F (xar sc) Y M L st (33, a, b, c, v, tab, sub, idx, pl) = some (.inl (true, st', L', M'))) (K : Kp F Y M st L) (hS : SS Z st sv) (k : Go R Z Y (i + 1) st' L' M') : G Z (Y.map shm) (rpc R i) sv (cL L) (cM M) := by
  rw [ok_33] at hk
  have h := in_33 hs
  obtain ⟨x, k', s0, rfl, rfl, rfl, rfl⟩ := h
  obtain ⟨ws, rfl, hQ⟩ := hS.uI
  have hS := hQ
  clear hQ
  obtain ⟨ws, rfl, hQ⟩ := hS.uR
  have hS := hQ
  clear hQ
  obtain ⟨e1, e2⟩ := dn_d hk
  have k2 := k _ (SS.k (v := vi x) rfl (SS.k (v := vr k') rfl (SS.k (v := vi x) rfl (SS.k (v := vr k') rfl hS))))
  rw [e2] at k2
  exact g_dup2 B.1 (B.dc e1) k2
theorem so_34 (B : Bd sc R d Z) (hk : okI RT R i (34, a, b, c, v, tab, sub, idx, pl) = true) (hs : stp F (xar sc) Y M L st (34, a, b, c, v, tab, sub, idx, pl) = some (.inl (true, st', L', M'))) (K : Kp F Y M st L) (hS : SS Z st sv) (k : Go R Z Y (i + 1) st' L' M') : G Z (Y.map shm) (rpc R i) sv (cL L) (cM M) := by
  rw [ok_34] at hk
  have h := in_34 hs
  obtain ⟨x, s0, h, rfl, rfl, rfl⟩ := h
  rcases h with ⟨rfl, rfl⟩ | ⟨ha, rfl⟩
  · obtain ⟨ws, rfl, hQ⟩ := hS.uI
    have hS := hQ
    clear hQ
    obtain ⟨e1, e2⟩ := dn_d hk
    have k2 := k _ hS
    rw [e2] at k2
    exact g_pop B.1 (B.dc e1) k2
  · obtain ⟨ws, rfl, hQ⟩ := hS.uL
    have hS := hQ
    clear hQ
    split at hk
    · exact absurd rfl ha
    · obtain ⟨e1, e2⟩ := dn_d hk
      have k2 := k _ hS
      rw [e2] at k2
      exact g_pop2 B.1 (B.dc e1) k2
theorem ct_cat {Z : Px} {v : Vv} {w : Value} (h : SV Z v w) : w.category = ctV v := by
  rcases v with x | x | k | k
  · cases h
    rfl
  · cases h
    rfl
  · cases h
    rfl
  · match k, h with
    | 0, h => obtain ⟨t, rfl, -⟩ := h; rfl
    | 1, h => obtain ⟨t, rfl, -⟩ := h; rfl
    | k + 2, h => obtain ⟨t, rfl, -⟩ := h; rfl
theorem SS.ctt {Z : Px} {vs : List Vv} {ws : List Value} (h : SS Z vs ws) : catW ws = catV vs := by
  induction vs generalizing ws with
  | nil =>
    cases h.n
    rfl
  | cons v vs ih =>
    obtain ⟨w, ws', rfl, h1, h2⟩ := h.u
    unfold catW catV at *
    rw [List.map_cons, List.map_cons, List.sum_cons, List.sum_cons, ih h2, ct_cat h1]
theorem so_38 (hd : 1 ≤ xd Z) (B : Bd sc R d Z) (hk : okI RT R i (38, a, b, c, v, tab, sub, idx, pl) = true) (hs : stp F (xar sc) Y M L st (38, a, b, c, v, tab, sub, idx, pl) = some (.inl (true, st', L', M'))) (K : Kp F Y M st L) (hS : SS Z st sv) (k : Go R Z Y (i + 1) st' L' M') : G Z (Y.map shm) (rpc R i) sv (cL L) (cM M) := by
  rw [ok_38] at hk
  have h := in_38 hs
  obtain ⟨k', s0, rfl, hc, rfl, rfl, rfl⟩ := h
  obtain ⟨ws, rfl, hQ⟩ := hS.uR
  have hS := hQ
  clear hQ
  obtain ⟨g1, g2, g3, g4⟩ := an4 hk
  obtain ⟨e1, e2⟩ := dn_d g4
  have k2 := k _ hS
  rw [e2] at k2
  exact g_objInit B.1 (by rw [B.2.2.1]; exact ckw_g g1) (ckw_g g2) (ckw_g g3) hd (by rw [hS.ctt]; exact hc) (B.dc e1) k2
theorem so_39 (hd : 1 ≤ xd Z) (hR : (Y.map shm).length - xy0 Z ≤ (xR Z).cells ∧ szs (Y.map shm) - xs0 Z ≤ (xR Z).slots) (B : Bd sc R d Z) (hk : okI RT R i (39, a, b, c, v, tab, sub, idx, pl) = true) (hs : stp F (xar sc) Y M L st (39, a, b, c, v, tab, sub, idx, pl) = some (.inl (true, st', L', M'))) (K : Kp F Y M st L) (hS : SS Z st sv) (k : Go R Z Y (i + 1) st' L' M') : G Z (Y.map shm) (rpc R i) sv (cL L) (cM M) := by
  rw [ok_39] at hk
  have h := in_39 hs
  obtain ⟨g1, g2, g3⟩ := an3 hk
  obtain ⟨e1, e2⟩ := dn_d g1
  obtain ⟨h, rfl, rfl⟩ := h
  obtain ⟨c1, c2, c3, c4, -, -, c7, c8, c9, -⟩ := B.1
  have c3 := c3
  rw [B.2.2.1] at c3
  rcases h with ⟨rfl, x, s0, rfl, hc, rfl⟩ | ⟨ha, y, x, s0, rfl, hc, rfl⟩
  · obtain ⟨ws, rfl, hQ⟩ := hS.uI
    have hx := K.2.1.un.1
    have hcw : catW ws ≤ 8 := by rw [hQ.ctt]; exact hc
    have k2 := k _ (SS.k (v := vi (mAbs x)) (w := .int (i32 (mAbs x))) rfl hQ)
    rw [e2] at k2
    obtain ⟨g4, g5, g6⟩ := an3 g3
    have ev : i32 (mAbs x) = if (0 : Int32) ≤ i32 x then i32 x else 0 - i32 x := by
      have e0 : ((0 : Int32) ≤ i32 x) ↔ 0 ≤ x := le_i32 in32_0 hx
      unfold mAbs
      by_cases h0 : 0 ≤ x
      · rw [if_pos h0, if_pos (e0.mpr h0)]
      · rw [if_neg h0, if_neg (fun q => h0 (e0.mp q)), i32_sub]
        rfl
    rw [ev] at k2
    exact fun H lo ls a1 a2 a3 a4 => va_mabs c1 c2 (by rw [c7]; exact a4.1.symm) c3 (c4 _ (ckw_g g4)) (c4 _ (ckw_g g5)) (c4 _ (ckw_g g2)) (c4 _ (ckw_g g6)) (Nat.le_trans hd c8) (by show catW ws + 13 ≤ _; omega) hR.1 hR.2 (B.dc e1) (k2 H lo ls a1 a2 a3 a4)
  · obtain ⟨ws, rfl, hQ⟩ := hS.uI
    obtain ⟨ws2, rfl, hQ2⟩ := hQ.uI
    have hy := K.2.1.un.1
    have hx := K.2.1.un.2.un.1
    have hcw : catW ws2 ≤ 8 := by rw [hQ2.ctt]; exact hc
    have k2 := k _ (SS.k (v := vi (mMM a x y)) (w := .int (i32 (mMM a x y))) rfl hQ2)
    rw [e2] at k2
    split at g3
    · exact absurd rfl ha
    · obtain ⟨g4, g5, g6⟩ := an3 g3
      have ev : i32 (mMM 1 x y) = if i32 x < i32 y then i32 y else i32 x := by
        show i32 (mMax x y) = _
        unfold mMax
        by_cases h0 : x < y
        · rw [if_pos h0, if_pos ((lt_i32 hx hy).mpr h0)]
        · rw [if_neg h0, if_neg (fun q => h0 ((lt_i32 hx hy).mp q))]
      rw [ev] at k2
      exact fun H lo ls a1 a2 a3 a4 => va_mmax c1 c2 (by rw [c7]; exact a4.1.symm) c3 (c4 _ (ckw_g g4)) (c4 _ (ckw_g g5)) (c4 _ (ckw_g g2)) (c4 _ (ckw_g g6)) (Nat.le_trans hd c8) (by show catW ws2 + 13 ≤ _; omega) hR.1 hR.2 (B.dc e1) (k2 H lo ls a1 a2 a3 a4)
    · obtain ⟨g4, g5, g6⟩ := an3 g3
      have ev : i32 (mMM 2 x y) = if i32 y < i32 x then i32 y else i32 x := by
        show i32 (mMin x y) = _
        unfold mMin
        by_cases h0 : y < x
        · rw [if_pos h0, if_pos ((lt_i32 hy hx).mpr h0)]
        · rw [if_neg h0, if_neg (fun q => h0 ((lt_i32 hy hx).mp q))]
      rw [ev] at k2
      exact fun H lo ls a1 a2 a3 a4 => va_mmin c1 c2 (by rw [c7]; exact a4.1.symm) c3 (c4 _ (ckw_g g4)) (c4 _ (ckw_g g5)) (c4 _ (ckw_g g2)) (c4 _ (ckw_g g6)) (Nat.le_trans hd c8) (by show catW ws2 + 13 ≤ _; omega) hR.1 hR.2 (B.dc e1) (k2 H lo ls a1 a2 a3 a4)
    · cases g3
theorem so_N {mi : MI} (hd : 1 ≤ xd Z) (hR : (Y.map shm).length - xy0 Z ≤ (xR Z).cells ∧ szs (Y.map shm) - xs0 Z ≤ (xR Z).slots) (B : Bd sc R d Z) (hk : okI RT R i mi = true) (hs : stp F (xar sc) Y M L st mi = some (.inl (true, st', L', M'))) (K : Kp F Y M st L) (hS : SS Z st sv) (k : Go R Z Y (i + 1) st' L' M') : G Z (Y.map shm) (rpc R i) sv (cL L) (cM M) := by
  obtain ⟨op, a, b, c, v, tab, sub, idx, pl⟩ := mi
  match op, hk, hs with
  | 0, hk, hs => exact so_0 B hk hs K hS k
  | 1, hk, hs => exact so_1 B hk hs K hS k
  | 2, hk, hs => exact so_2 B hk hs K hS k
  | 3, hk, hs => exact so_3 B hk hs K hS k
  | 4, hk, hs => exact so_4 B hk hs K hS k
  | 5, hk, hs => exact so_5 B hk hs K hS k
  | 6, hk, hs => exact so_6 B hk hs K hS k
  | 7, hk, hs => exact so_7 B hk hs K hS k
  | 8, hk, hs => exact so_8 B hk hs K hS k
  | 9, hk, hs => exact so_9 B hk hs K hS k
  | 10, hk, hs => exact so_10 B hk hs K hS k
  | 11, hk, hs => exact so_11 B hk hs K hS k
  | 12, hk, hs => exact so_12 B hk hs K hS k
  | 13, hk, hs => exact so_13 B hk hs K hS k
  | 14, hk, hs => exact so_14 B hk hs K hS k
  | 15, hk, hs => exact absurd hs in_15
  | 16, hk, hs => exact absurd hs in_16
  | 17, hk, hs => exact absurd hs in_17
  | 18, hk, hs => exact absurd hs in_18
  | 19, hk, hs => exact so_19 B hk hs K hS k
  | 20, hk, hs => exact so_20 B hk hs K hS k
  | 21, hk, hs => exact so_21 B hk hs K hS k
  | 22, hk, hs => exact so_22 B hk hs K hS k
  | 23, hk, hs => exact so_23 B hk hs K hS k
  | 24, hk, hs => exact so_24 B hk hs K hS k
  | 25, hk, hs => exact so_25 B hk hs K hS k
  | 26, hk, hs => exact so_26 B hk hs K hS k
  | 27, hk, hs => exact so_27 B hk hs K hS k
  | 28, hk, hs => exact so_28 B hk hs K hS k
  | 29, hk, hs => exact so_29 B hk hs K hS k
  | 30, hk, hs => exact absurd hs in_30
  | 31, hk, hs => exact absurd hs in_31
  | 32, hk, hs => exact so_32 B hk hs K hS k
  | 33, hk, hs => exact so_33 B hk hs K hS k
  | 34, hk, hs => exact so_34 B hk hs K hS k
  | 35, hk, hs => exact absurd hs in_35
  | 36, hk, hs => exact absurd hs in_36
  | 37, hk, hs => exact absurd hs in_37
  | 38, hk, hs => exact so_38 hd B hk hs K hS k
  | 39, hk, hs => exact so_39 hd hR B hk hs K hS k
  | op + 40, hk, hs => cases hs
end SOUND
