/-! STRAIGHT STRETCHES: what a row of instructions does, as a function; and that it is so -/
abbrev ZI : Type := Instr × Nat × Int
def zlen : Instr → Nat
  | .bipush _ => 2 | .sipush _ => 3 | .ldc _ => 2 | .ldc_w _ => 3 | .ldc2_w _ => 3
  | .iload _ => 2 | .lload _ => 2 | .aload _ => 2 | .istore _ => 2 | .lstore _ => 2 | .astore _ => 2
  | .iinc _ _ => 3 | .getfield _ => 3 | .putfield _ => 3 | _ => 1
def zd1 (n : Nat) : Instr → Bool
  | .iconst x => decide (-2147483648 ≤ x) && decide (x ≤ 2147483647)
  | .bipush x => decide (-2147483648 ≤ x) && decide (x ≤ 2147483647) && decide ((Int8.ofInt x).toInt32 = Int32.ofInt x)
  | .sipush x => decide (-2147483648 ≤ x) && decide (x ≤ 2147483647) && decide ((Int16.ofInt x).toInt32 = Int32.ofInt x)
  | .istore i => decide (i < n) | .istore_n i => decide ((i : Nat) < n) | .astore i => decide (i < n) | .astore_n i => decide ((i : Nat) < n)
  | .lstore i => decide (i + 1 < n) | .lstore_n i => decide ((i : Nat) + 1 < n) | .iinc i _ => decide (i < n)
  | _ => true
/-- the bytes from pc on are these instructions, and pc' comes behind them -/
def zdec (bs : ByteArray) (n : Nat) : Nat → List ZI → Nat → Bool
  | pc, [], pc' => decide (pc = pc')
  | pc, q :: r, pc' => match decode bs pc with
    | .ok (i, len) => decide (i = q.1) && decide (len = zlen i) && zd1 n i && zdec bs n (pc + len) r pc'
    | .error _ => false
/-- what the tables must say of them -/
def zall (M : ZMeth) : List ZI → Prop
  | [] => True
  | (.getfield idx, c, k) :: r => ZGet M.1.cls idx c k.toNat ∧ zall M r
  | (.putfield idx, c, k) :: r => (ZGet M.1.cls idx c k.toNat ∧ ZPut M idx c k.toNat) ∧ zall M r
  | (.ldc idx, 0, v) :: r => (Cond.constant M.1.cls idx (Int32.ofInt v) ∈ zWs ∧ zin32 v) ∧ zall M r
  | (.ldc_w idx, 0, v) :: r => (Cond.constant M.1.cls idx (Int32.ofInt v) ∈ zWs ∧ zin32 v) ∧ zall M r
  | (.ldc2_w idx, _, v) :: r => (Cond.constantLong M.1.cls idx (Int64.ofInt v) ∈ zWs ∧ zin64 v) ∧ zall M r
  | (.ldc idx, _ + 1, v) :: r => (∃ tx, (M.1.cls, idx, tx, v.toNat) ∈ zStr ∧ 0 ≤ v) ∧ zall M r
  | (.ldc_w idx, _ + 1, v) :: r => (∃ tx, (M.1.cls, idx, tx, v.toNat) ∈ zStr ∧ 0 ≤ v) ∧ zall M r
  | _ :: r => zall M r
def zx (kd : ZK) : List ZI → List ZV → List ZV → ZM → (List ZV → List ZV → ZM → Prop) → Prop
  | [], ls, st, m, K => K ls st m
  | (i, a, b) :: r, ls, st, m, K => match i with
    | .iconst n => zx kd r ls ((0, n) :: st) m K
    | .bipush n => zx kd r ls ((0, n) :: st) m K
    | .sipush n => zx kd r ls ((0, n) :: st) m K
    | .lconst n => zx kd r ls ((1, ((n : Nat) : Int)) :: st) m K
    | .ldc _ => match a with
      | 0 => zx kd r ls ((0, b) :: st) m K
      | _ + 1 => zx kd r ls ((3, b) :: st) m K
    | .ldc_w _ => match a with
      | 0 => zx kd r ls ((0, b) :: st) m K
      | _ + 1 => zx kd r ls ((3, b) :: st) m K
    | .ldc2_w _ => zx kd r ls ((1, b) :: st) m K
    | .iload i => match ls[i]? with
      | some (0, x) => zx kd r ls ((0, x) :: st) m K
      | _ => False
    | .iload_n i => match ls[(i : Nat)]? with
      | some (0, x) => zx kd r ls ((0, x) :: st) m K
      | _ => False
    | .lload i => match ls[i]? with
      | some (1, x) => zx kd r ls ((1, x) :: st) m K
      | _ => False
    | .lload_n i => match ls[(i : Nat)]? with
      | some (1, x) => zx kd r ls ((1, x) :: st) m K
      | _ => False
    | .aload i => match ls[i]? with
      | some (2, x) => zx kd r ls ((2, x) :: st) m K
      | some (3, x) => zx kd r ls ((3, x) :: st) m K
      | some (5, x) => zx kd r ls ((5, x) :: st) m K
      | _ => False
    | .aload_n i => match ls[(i : Nat)]? with
      | some (2, x) => zx kd r ls ((2, x) :: st) m K
      | some (3, x) => zx kd r ls ((3, x) :: st) m K
      | some (5, x) => zx kd r ls ((5, x) :: st) m K
      | _ => False
    | .istore i => match st with
      | (0, x) :: st => zx kd r (zst1 ls i (0, x)) st m K
      | _ => False
    | .istore_n i => match st with
      | (0, x) :: st => zx kd r (zst1 ls (i : Nat) (0, x)) st m K
      | _ => False
    | .lstore i => match st with
      | (1, x) :: st => zx kd r (zst2 ls i (1, x)) st m K
      | _ => False
    | .lstore_n i => match st with
      | (1, x) :: st => zx kd r (zst2 ls (i : Nat) (1, x)) st m K
      | _ => False
    | .astore i => match st with
      | (2, x) :: st => zx kd r (zst1 ls i (2, x)) st m K
      | _ => False
    | .astore_n i => match st with
      | (2, x) :: st => zx kd r (zst1 ls (i : Nat) (2, x)) st m K
      | _ => False
    | .iinc i n => match ls[i]? with
      | some (0, x) => zx kd r (zst1 ls i (0, iw (x + n))) st m K
      | _ => False
    | .iadd => match st with
      | (0, y) :: (0, x) :: st => zx kd r ls ((0, iw (x + y)) :: st) m K
      | _ => False
    | .isub => match st with
      | (0, y) :: (0, x) :: st => zx kd r ls ((0, iw (x - y)) :: st) m K
      | _ => False
    | .imul => match st with
      | (0, y) :: (0, x) :: st => zx kd r ls ((0, iw (x * y)) :: st) m K
      | _ => False
    | .iand => match st with
      | (0, y) :: (0, x) :: st => zx kd r ls ((0, zand x y) :: st) m K
      | _ => False
    | .ior => match st with
      | (0, y) :: (0, x) :: st => zx kd r ls ((0, zor x y) :: st) m K
      | _ => False
    | .ixor => match st with
      | (0, y) :: (0, x) :: st => zx kd r ls ((0, zxor x y) :: st) m K
      | _ => False
    | .ishl => match st with
      | (0, y) :: (0, x) :: st => zx kd r ls ((0, zshl x y) :: st) m K
      | _ => False
    | .ishr => match st with
      | (0, y) :: (0, x) :: st => zx kd r ls ((0, zshr x y) :: st) m K
      | _ => False
    | .iushr => match st with
      | (0, y) :: (0, x) :: st => zx kd r ls ((0, zushr x y) :: st) m K
      | _ => False
    | .idiv => match st with
      | (0, y) :: (0, x) :: st => y ≠ 0 ∧ zx kd r ls ((0, iw (x.tdiv y)) :: st) m K
      | _ => False
    | .irem => match st with
      | (0, y) :: (0, x) :: st => y ≠ 0 ∧ zx kd r ls ((0, x.tmod y) :: st) m K
      | _ => False
    | .ladd => match st with
      | (1, y) :: (1, x) :: st => zx kd r ls ((1, lw64 (x + y)) :: st) m K
      | _ => False
    | .lsub => match st with
      | (1, y) :: (1, x) :: st => zx kd r ls ((1, lw64 (x - y)) :: st) m K
      | _ => False
    | .lmul => match st with
      | (1, y) :: (1, x) :: st => zx kd r ls ((1, lw64 (x * y)) :: st) m K
      | _ => False
    | .ldiv => match st with
      | (1, y) :: (1, x) :: st => y ≠ 0 ∧ zx kd r ls ((1, lw64 (x.tdiv y)) :: st) m K
      | _ => False
    | .lrem => match st with
      | (1, y) :: (1, x) :: st => y ≠ 0 ∧ zx kd r ls ((1, x.tmod y) :: st) m K
      | _ => False
    | .ineg => match st with
      | (0, x) :: st => zx kd r ls ((0, iw (-x)) :: st) m K
      | _ => False
    | .i2b => match st with
      | (0, x) :: st => zx kd r ls ((0, zi2b x) :: st) m K
      | _ => False
    | .i2l => match st with
      | (0, x) :: st => zx kd r ls ((1, x) :: st) m K
      | _ => False
    | .l2i => match st with
      | (1, x) :: st => zx kd r ls ((0, iw x) :: st) m K
      | _ => False
    | .lcmp => match st with
      | (1, y) :: (1, x) :: st => zx kd r ls ((0, zcmp x y) :: st) m K
      | _ => False
    | .dup => match st with
      | (0, x) :: st => zx kd r ls ((0, x) :: (0, x) :: st) m K
      | (2, x) :: st => zx kd r ls ((2, x) :: (2, x) :: st) m K
      | _ => False
    | .pop => match st with
      | (0, x) :: st => zx kd r ls st m K
      | (2, x) :: st => zx kd r ls st m K
      | _ => False
    | .dup2 => match st with
      | (0, x) :: (2, y) :: st => zx kd r ls ((0, x) :: (2, y) :: (0, x) :: (2, y) :: st) m K
      | _ => False
    | .getfield _ => match st with
      | (2, o) :: st => zobj kd o a ∧ zx kd r ls ((ztag a b.toNat, m o b.toNat) :: st) m K
      | _ => False
    | .putfield _ => match st with
      | v :: (2, o) :: st => v.1 = ztag a b.toNat ∧ zobj kd o a ∧ zx kd r ls st (zup m o b.toNat v.2) K
      | _ => False
    | .iaload => match st with
      | (0, i) :: (2, o) :: st => zIn kd o 0 i ∧ zx kd r ls ((0, m o i) :: st) m K
      | _ => False
    | .baload => match st with
      | (0, i) :: (2, o) :: st => (a = 1 ∨ a = 2) ∧ zIn kd o a i ∧ zx kd r ls ((0, m o i) :: st) m K
      | _ => False
    | .aaload => match st with
      | (0, i) :: (2, o) :: st => zIn kd o 3 i ∧ zx kd r ls ((2, m o i) :: st) m K
      | _ => False
    | .iastore => match st with
      | (0, x) :: (0, i) :: (2, o) :: st => zIn kd o 0 i ∧ zx kd r ls st (zup m o i x) K
      | _ => False
    | .bastore => match st with
      | (0, x) :: (0, i) :: (2, o) :: st => ((a = 1 ∧ 0 ≤ x ∧ x ≤ 1) ∨ (a = 2 ∧ -128 ≤ x ∧ x ≤ 127)) ∧ zIn kd o a i ∧ zx kd r ls st (zup m o i x) K
      | _ => False
    | .aastore => match st with
      | (2, v) :: (0, i) :: (2, o) :: st => zIn kd o 3 i ∧ zobj kd v 1 ∧ zx kd r ls st (zup m o i v) K
      | _ => False
    | .arraylength => match st with
      | (2, o) :: st => (a ≤ 3 ∧ 0 ≤ b ∧ b < 2147483648) ∧ zarr kd o a b.toNat ∧ zx kd r ls ((0, b) :: st) m K
      | _ => False
    | _ => False
theorem zdec_cons {bs : ByteArray} {n pc pc' : Nat} {q : ZI} {r : List ZI} (h : zdec bs n pc (q :: r) pc' = true) : decode bs pc = .ok (q.1, zlen q.1) ∧ zd1 n q.1 = true ∧ zdec bs n (pc + zlen q.1) r pc' = true := by
  rw [zdec] at h
  split at h
  · rename_i i len hd
    simp only [Bool.and_eq_true, decide_eq_true_eq] at h
    obtain ⟨⟨⟨h1, h2⟩, h3⟩, h4⟩ := h
    subst h1; subst h2
    exact ⟨hd, h3, h4⟩
  · cases h
section EVX
variable {X : Option (Nat × (Nat → Int))} {d : Nat} {M : ZMeth} {mc ms : Nat} {kd : ZK} {Q : ZQ} {K : List ZV → List ZV → ZM → Prop}
set_option maxHeartbeats 4000000 in
theorem zx_sound {pc' : Nat} (hK : ∀ ls' st' m', K ls' st' m' → EvX X d M mc ms pc' ls' st' kd m' Q) : ∀ (is : List ZI) (pc : Nat) (ls st : List ZV) (m : ZM), zdec M.2.1 M.2.2.1 pc is pc' = true → zall M is → zx kd is ls st m K → EvX X d M mc ms pc ls st kd m Q := by
  intro is
  induction is with
  | nil =>
    intro pc ls st m hd ha h
    have e : pc = pc' := by simpa [zdec] using hd
    subst e
    exact hK _ _ _ h
  | cons q r ih =>
    intro pc ls st m hd ha h
    obtain ⟨i, a, b⟩ := q
    obtain ⟨hdc, hd1, hdr⟩ := zdec_cons hd
    dsimp only at hdc hd1 hdr
    cases i
    case iconst n =>
      simp only [zd1, Bool.and_eq_true, decide_eq_true_eq] at hd1
      exact EvX.iconst hdc ⟨hd1.1, hd1.2⟩ (ih _ _ _ _ hdr ha h)
    case bipush n =>
      simp only [zd1, Bool.and_eq_true, decide_eq_true_eq] at hd1
      exact EvX.bipush hdc ⟨hd1.1.1, hd1.1.2⟩ hd1.2 (ih _ _ _ _ hdr ha h)
    case sipush n =>
      simp only [zd1, Bool.and_eq_true, decide_eq_true_eq] at hd1
      exact EvX.sipush hdc ⟨hd1.1.1, hd1.1.2⟩ hd1.2 (ih _ _ _ _ hdr ha h)
    case lconst n =>
      exact EvX.lconst hdc (ih _ _ _ _ hdr ha h)
    case ldc idx =>
      match a, ha, h with
      | 0, ha, h => exact EvX.ldci hdc ha.1.2 ha.1.1 (ih _ _ _ _ hdr ha.2 h)
      | a + 1, ha, h =>
        obtain ⟨⟨tx, h1, h2⟩, h3⟩ := ha
        have h4 : ((b.toNat : Nat) : Int) = b := by omega
        exact EvX.ldcS hdc h1 (by rw [h4]; exact ih _ _ _ _ hdr h3 h)
    case ldc_w idx =>
      match a, ha, h with
      | 0, ha, h => exact EvX.ldcwi hdc ha.1.2 ha.1.1 (ih _ _ _ _ hdr ha.2 h)
      | a + 1, ha, h =>
        obtain ⟨⟨tx, h1, h2⟩, h3⟩ := ha
        have h4 : ((b.toNat : Nat) : Int) = b := by omega
        exact EvX.ldcwS hdc h1 (by rw [h4]; exact ih _ _ _ _ hdr h3 h)
    case ldc2_w idx =>
      exact EvX.ldc2 hdc ha.1.2 ha.1.1 (ih _ _ _ _ hdr ha.2 h)
    case iload i =>
      simp only [zx] at h
      split at h
      · rename_i x hx
        exact EvX.iload hdc hx (ih _ _ _ _ hdr ha h)
      · exact h.elim
    case iload_n i =>
      simp only [zx] at h
      split at h
      · rename_i x hx
        exact EvX.iload_n hdc hx (ih _ _ _ _ hdr ha h)
      · exact h.elim
    case lload i =>
      simp only [zx] at h
      split at h
      · rename_i x hx
        exact EvX.lload hdc hx (ih _ _ _ _ hdr ha h)
      · exact h.elim
    case lload_n i =>
      simp only [zx] at h
      split at h
      · rename_i x hx
        exact EvX.lload_n hdc hx (ih _ _ _ _ hdr ha h)
      · exact h.elim
    case aload i =>
      simp only [zx] at h
      split at h
      · rename_i x hx
        exact EvX.aload hdc hx (Or.inl rfl) (ih _ _ _ _ hdr ha h)
      · rename_i x hx
        exact EvX.aload hdc hx (Or.inr (Or.inl rfl)) (ih _ _ _ _ hdr ha h)
      · rename_i x hx
        exact EvX.aload hdc hx (Or.inr (Or.inr (Or.inr (Or.inl rfl)))) (ih _ _ _ _ hdr ha h)
      · exact h.elim
    case aload_n i =>
      simp only [zx] at h
      split at h
      · rename_i x hx
        exact EvX.aload_n hdc hx (Or.inl rfl) (ih _ _ _ _ hdr ha h)
      · rename_i x hx
        exact EvX.aload_n hdc hx (Or.inr (Or.inl rfl)) (ih _ _ _ _ hdr ha h)
      · rename_i x hx
        exact EvX.aload_n hdc hx (Or.inr (Or.inr (Or.inr (Or.inl rfl)))) (ih _ _ _ _ hdr ha h)
      · exact h.elim
    case istore i =>
      simp only [zd1, decide_eq_true_eq] at hd1
      simp only [zx] at h
      split at h
      · exact EvX.istore hdc hd1 (ih _ _ _ _ hdr ha h)
      · exact h.elim
    case istore_n i =>
      simp only [zd1, decide_eq_true_eq] at hd1
      simp only [zx] at h
      split at h
      · exact EvX.istore_n hdc hd1 (ih _ _ _ _ hdr ha h)
      · exact h.elim
    case lstore i =>
      simp only [zd1, decide_eq_true_eq] at hd1
      simp only [zx] at h
      split at h
      · exact EvX.lstore hdc hd1 (ih _ _ _ _ hdr ha h)
      · exact h.elim
    case lstore_n i =>
      simp only [zd1, decide_eq_true_eq] at hd1
      simp only [zx] at h
      split at h
      · exact EvX.lstore_n hdc hd1 (ih _ _ _ _ hdr ha h)
      · exact h.elim
    case astore i =>
      simp only [zd1, decide_eq_true_eq] at hd1
      simp only [zx] at h
      split at h
      · exact EvX.astore hdc (Or.inl rfl) hd1 (ih _ _ _ _ hdr ha h)
      · exact h.elim
    case astore_n i =>
      simp only [zd1, decide_eq_true_eq] at hd1
      simp only [zx] at h
      split at h
      · exact EvX.astore_n hdc (Or.inl rfl) hd1 (ih _ _ _ _ hdr ha h)
      · exact h.elim
    case iinc i n =>
      simp only [zd1, decide_eq_true_eq] at hd1
      simp only [zx] at h
      split at h
      · rename_i x hx
        exact EvX.iinc hdc hx hd1 (ih _ _ _ _ hdr ha h)
      · exact h.elim
    case iadd =>
      simp only [zx] at h
      split at h
      · exact EvX.iadd hdc (ih _ _ _ _ hdr ha h)
      · exact h.elim
    case isub =>
      simp only [zx] at h
      split at h
      · exact EvX.isub hdc (ih _ _ _ _ hdr ha h)
      · exact h.elim
    case imul =>
      simp only [zx] at h
      split at h
      · exact EvX.imul hdc (ih _ _ _ _ hdr ha h)
      · exact h.elim
    case iand =>
      simp only [zx] at h
      split at h
      · exact EvX.iand hdc (ih _ _ _ _ hdr ha h)
      · exact h.elim
    case ior =>
      simp only [zx] at h
      split at h
      · exact EvX.ior hdc (ih _ _ _ _ hdr ha h)
      · exact h.elim
    case ixor =>
      simp only [zx] at h
      split at h
      · exact EvX.ixor hdc (ih _ _ _ _ hdr ha h)
      · exact h.elim
    case ishl =>
      simp only [zx] at h
      split at h
      · exact EvX.ishl hdc (ih _ _ _ _ hdr ha h)
      · exact h.elim
    case ishr =>
      simp only [zx] at h
      split at h
      · exact EvX.ishr hdc (ih _ _ _ _ hdr ha h)
      · exact h.elim
    case iushr =>
      simp only [zx] at h
      split at h
      · exact EvX.iushr hdc (ih _ _ _ _ hdr ha h)
      · exact h.elim
    case ladd =>
      simp only [zx] at h
      split at h
      · exact EvX.ladd hdc (ih _ _ _ _ hdr ha h)
      · exact h.elim
    case lsub =>
      simp only [zx] at h
      split at h
      · exact EvX.lsub hdc (ih _ _ _ _ hdr ha h)
      · exact h.elim
    case lmul =>
      simp only [zx] at h
      split at h
      · exact EvX.lmul hdc (ih _ _ _ _ hdr ha h)
      · exact h.elim
    case lcmp =>
      simp only [zx] at h
      split at h
      · exact EvX.lcmp hdc (ih _ _ _ _ hdr ha h)
      · exact h.elim
    case idiv =>
      simp only [zx] at h
      split at h
      · exact EvX.idiv hdc h.1 (ih _ _ _ _ hdr ha h.2)
      · exact h.elim
    case irem =>
      simp only [zx] at h
      split at h
      · exact EvX.irem hdc h.1 (ih _ _ _ _ hdr ha h.2)
      · exact h.elim
    case ldiv =>
      simp only [zx] at h
      split at h
      · exact EvX.ldiv hdc h.1 (ih _ _ _ _ hdr ha h.2)
      · exact h.elim
    case lrem =>
      simp only [zx] at h
      split at h
      · exact EvX.lrem hdc h.1 (ih _ _ _ _ hdr ha h.2)
      · exact h.elim
    case ineg =>
      simp only [zx] at h
      split at h
      · exact EvX.ineg hdc (ih _ _ _ _ hdr ha h)
      · exact h.elim
    case i2b =>
      simp only [zx] at h
      split at h
      · exact EvX.i2b hdc (ih _ _ _ _ hdr ha h)
      · exact h.elim
    case i2l =>
      simp only [zx] at h
      split at h
      · exact EvX.i2l hdc (ih _ _ _ _ hdr ha h)
      · exact h.elim
    case l2i =>
      simp only [zx] at h
      split at h
      · exact EvX.l2i hdc (ih _ _ _ _ hdr ha h)
      · exact h.elim
    case dup =>
      simp only [zx] at h
      split at h
      · exact EvX.dup hdc (fun q => by cases q) (ih _ _ _ _ hdr ha h)
      · exact EvX.dup hdc (fun q => by cases q) (ih _ _ _ _ hdr ha h)
      · exact h.elim
    case pop =>
      simp only [zx] at h
      split at h
      · exact EvX.pop hdc (fun q => by cases q) (ih _ _ _ _ hdr ha h)
      · exact EvX.pop hdc (fun q => by cases q) (ih _ _ _ _ hdr ha h)
      · exact h.elim
    case dup2 =>
      simp only [zx] at h
      split at h
      · exact EvX.dup2 hdc (fun q => by cases q) (fun q => by cases q) (ih _ _ _ _ hdr ha h)
      · exact h.elim
    case getfield idx =>
      simp only [zx] at h
      split at h
      · exact EvX.getf hdc ha.1 h.1 (ih _ _ _ _ hdr ha.2 h.2)
      · exact h.elim
    case putfield idx =>
      simp only [zx] at h
      split at h
      · exact EvX.putf hdc ha.1.1 ha.1.2 h.1 h.2.1 (ih _ _ _ _ hdr ha.2 h.2.2)
      · exact h.elim
    case iaload =>
      simp only [zx] at h
      split at h
      · exact EvX.iaload hdc h.1 (ih _ _ _ _ hdr ha h.2)
      · exact h.elim
    case aaload =>
      simp only [zx] at h
      split at h
      · exact EvX.aaload hdc h.1 (ih _ _ _ _ hdr ha h.2)
      · exact h.elim
    case iastore =>
      simp only [zx] at h
      split at h
      · exact EvX.iastore hdc h.1 (ih _ _ _ _ hdr ha h.2)
      · exact h.elim
    case baload =>
      simp only [zx] at h
      split at h
      · obtain ⟨hab, h1, h2⟩ := h
        rcases hab with rfl | rfl
        · exact EvX.zaload hdc h1 (ih _ _ _ _ hdr ha h2)
        · exact EvX.baload hdc h1 (ih _ _ _ _ hdr ha h2)
      · exact h.elim
    case bastore =>
      simp only [zx] at h
      split at h
      · obtain ⟨hab, h1, h2⟩ := h
        rcases hab with ⟨rfl, hx⟩ | ⟨rfl, hx⟩
        · exact EvX.zastore hdc h1 hx (ih _ _ _ _ hdr ha h2)
        · exact EvX.bastore hdc h1 hx (ih _ _ _ _ hdr ha h2)
      · exact h.elim
    case aastore =>
      simp only [zx] at h
      split at h
      · exact EvX.aastore hdc h.1 h.2.1 (ih _ _ _ _ hdr ha h.2.2)
      · exact h.elim
    case arraylength =>
      simp only [zx] at h
      split at h
      · obtain ⟨⟨h1, h2, h3⟩, h4, h5⟩ := h
        have h6 : ((b.toNat : Nat) : Int) = b := by omega
        exact EvX.alen (n := b.toNat) hdc h4 h1 (by omega) (by rw [h6]; exact ih _ _ _ _ hdr ha h5)
      · exact h.elim
    all_goals exact absurd h (by simp only [zx]; exact id)
/-- a straight stretch -/
theorem EvX.blk {pc pc' : Nat} {ls st : List ZV} {m : ZM} (is : List ZI) (hd : zdec M.2.1 M.2.2.1 pc is pc' = true) (ha : zall M is) (h : zx kd is ls st m (fun ls' st' m' => EvX X d M mc ms pc' ls' st' kd m' Q)) : EvX X d M mc ms pc ls st kd m Q :=
  zx_sound (fun _ _ _ h => h) is pc ls st m hd ha h
end EVX
