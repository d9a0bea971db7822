/-! THE ABSTRACT MACHINE: values are (kind, number); the heap is a table of kinds and a function of two numbers. 'Ev': from here on the method comes to an end with Q. -/
abbrev ZV : Type := Nat × Int
abbrev ZM : Type := Int → Int → Int
abbrev ZK : Type := List (Nat × Nat)
/-- where the String constants lie, their bytes, the script -/
abbrev ZE : Type := (Nat → Nat) × (Nat → Nat) × Nat × Nat × (Nat → Int32) × Option Nat
def zJ : ZV := (9, 0)
def zin32 (x : Int) : Prop := -2147483648 ≤ x ∧ x ≤ 2147483647
def zin64 (x : Int) : Prop := -9223372036854775808 ≤ x ∧ x ≤ 9223372036854775807
def iw (x : Int) : Int := x.bmod 4294967296
def lw64 (x : Int) : Int := x.bmod 18446744073709551616
def zup (m : ZM) (a i v : Int) : ZM := fun b j => if b = a ∧ j = i then v else m b j
def zrf (ad : Nat → Nat) (x : Int) : Option Nat := if x < 0 then none else some (ad x.toNat)
def zc (E : ZE) (ad : Nat → Nat) : ZV → Value
  | (0, x) => .int (Int32.ofInt x)
  | (1, x) => .long (Int64.ofInt x)
  | (2, x) => va_rf (zrf ad x)
  | (3, x) => .ref (E.1 x.toNat)
  | (4, _) => .ref E.2.2.1
  | (5, x) => .ref (E.2.1 x.toNat)
  | (6, _) => va_rf E.2.2.2.2.2
  | _ => .null
def zok (kd : ZK) (v : ZV) : Prop := (v.1 = 0 → zin32 v.2) ∧ (v.1 = 1 → zin64 v.2) ∧ (v.1 = 2 → zin32 v.2 ∧ v.2 < kd.length)
def zokm (kd : ZK) (m : ZM) : Prop := (∀ a i, zin32 (m a i)) ∧ (∀ (a : Nat) (q : Nat × Nat), kd[a]? = some q → (q.1 = 3 → ∀ i : Int, m a i < kd.length) ∧ (∀ c, q.1 = c + 10 → ∀ k : Nat, ztag c k = 2 → m a k < kd.length)) ∧ ∀ q ∈ kd, q.1 ≤ 3 ∨ 10 ≤ q.1
def zfv (ad : Nat → Nat) (t : Nat) (x : Int) : Value := if t = 0 then .int (Int32.ofInt x) else va_rf (zrf ad x)
def zcell (ad : Nat → Nat) (ca : Nat → ClassId) (m : ZM) (a : Nat) (q : Nat × Nat) : va_E :=
  if q.1 < 3 then .inl (ca a, q.2, .inl (fun j => Int32.ofInt (m a j)))
  else if q.1 = 3 then .inl (ca a, q.2, .inr (.inr (.inr (.inr (fun j => zrf ad (m a j))))))
  else .inr (q.1 - 10, (List.range q.2).map (fun k => zfv ad (ztag (q.1 - 10) k) (m a k)))
def zw (kd : ZK) (ad : Nat → Nat) (ca : Nat → ClassId) (m : ZM) : va_W := (List.range kd.length).map fun a => (ad a, zcell ad ca m a (kd.getD a (0, 0)))
def zty (k : Nat) : FieldType := if k = 0 then .int else if k = 1 then .boolean else if k = 2 then .byte else .object "ApartGames$Game"
def zcov (kd : ZK) (ca : Nat → ClassId) (tys : List (ClassId × FieldType)) : Prop := ∀ (a : Nat) (q : Nat × Nat), kd[a]? = some q → q.1 ≤ 3 → ∃ t0 : Nat, tys[t0]? = some (ca a, zty q.1)
def ZRel (D : va_G) (A : Nat → Prop) (kd : ZK) (m : ZM) (ad : Nat → Nat) (ca : Nat → ClassId) (tys : List (ClassId × FieldType)) (U : State) (H : Heap) : Prop :=
  va_K D zCl tys U ∧ va_P D zCl (zw kd ad ca m) H ∧ va_D A (zw kd ad ca m) ∧ zcov kd ca tys
def zext (kd : ZK) (ad : Nat → Nat) (ca : Nat → ClassId) (kd' : ZK) (ad' : Nat → Nat) (ca' : Nat → ClassId) : Prop := (∃ t, kd' = kd ++ t) ∧ ∀ a, a < kd.length → ad' a = ad a ∧ ca' a = ca a
/-! String constants -/
def zStr : List (String × Nat × String × Nat) := [("ApartGames$Tape", 39, "game", 0), ("ApartGames$Tape", 107, "weight", 1), ("ApartGames$Tape", 109, "win", 2), ("ApartGames$Tape", 111, "even", 3), ("ApartGames$Tape", 113, "odd", 4), ("ApartGames$Tape", 115, "alike", 5), ("ApartGames$Tape", 117, "unlike", 6), ("ApartGames$Tape", 119, "box", 7), ("ApartGames$Scribe", 27, "game", 0), ("ApartGames$Scribe", 75, ";weight", 8), ("ApartGames$Scribe", 53, ";win", 9), ("ApartGames$Scribe", 63, ";box", 10), ("ApartGamesModel", 151, "game", 0), ("ApartGamesModel", 126, "weight", 1), ("ApartGamesModel", 132, "win", 2), ("ApartGamesModel", 134, "even", 3), ("ApartGamesModel", 136, "odd", 4), ("ApartGamesModel", 138, "alike", 5), ("ApartGamesModel", 140, "unlike", 6), ("ApartGamesModel", 142, "box", 7), ("ApartGamesModel", 405, ";weight", 8), ("ApartGamesModel", 394, ";box", 10), ("ApartGamesModel", 396, ";win", 9)]
def zsTx : List String := ["game", "weight", "win", "even", "odd", "alike", "unlike", "box", ";weight", ";win", ";box"]
def zsN : Nat := 11
def zsLen : List Nat := [4, 6, 3, 4, 3, 5, 6, 3, 7, 4, 4]
def zsByt : List (List Int32) := [[103, 97, 109, 101], [119, 101, 105, 103, 104, 116], [119, 105, 110], [101, 118, 101, 110], [111, 100, 100], [97, 108, 105, 107, 101], [117, 110, 108, 105, 107, 101], [98, 111, 120], [59, 119, 101, 105, 103, 104, 116], [59, 119, 105, 110], [59, 98, 111, 120]]
def ZSf (E : ZE) (A : Nat → Prop) (U : State) (H : Heap) : Prop :=
  (∀ w ∈ zNM, va_Nw (.methodLinkNest w.1 w.2.1 w.2.2.1 w.2.2.2) U) ∧ (∀ w ∈ zNF, va_Nw (.fieldLinkNest w.1 w.2.1 w.2.2.1 w.2.2.2.1 w.2.2.2.2.1 w.2.2.2.2.2) U) ∧ (∀ w ∈ zStr, vk_R w.1 w.2.1 w.2.2.1 (E.1 w.2.2.2) U) ∧
  vk_S zsN zsLen zsByt E.1 E.2.1 A U H ∧ va_Z "java/lang/String" "COMPACT_STRINGS" "Z" (.int 1) A U H ∧ va_Z "jdk/internal/util/Preconditions" "SIOOBE_FORMATTER" "Ljava/util/function/BiFunction;" (va_rf E.2.2.2.2.2) A U H ∧
  va_X E.2.2.1 E.2.2.2.1 E.2.2.2.2.1 U H ∧ E.2.2.1 < H.size ∧ ¬ A E.2.2.1 ∧ va_AO "ApartGames$Game" U
theorem ZSf.warm {E : ZE} {A : Nat → Prop} {s U : State} {H : Heap} (hW : s.WarmedH U.vm) (h : ZSf E A s H) : ZSf E A U H := by
  obtain ⟨h1, h2, h3, h4, h5, h6, h7, h8, h9, h10⟩ := h
  exact ⟨fun w hw => va_Nw.warmM hW (h1 w hw), fun w hw => va_Nw.warmF hW (h2 w hw), fun w hw => vk_R.warm hW (h3 w hw), h4.moved hW.alike, va_Z.moved hW.alike h5, va_Z.moved hW.alike h6, va_X.moved hW.alike h7, h8, h9, va_AO.moved hW.alike h10⟩
theorem ZSf.same {E : ZE} {A : Nat → Prop} {u U : State} {H : Heap} (hv : U.vm = u.vm) (h : ZSf E A u H) : ZSf E A U H := by
  obtain ⟨h1, h2, h3, h4, h5, h6, h7, h8, h9, h10⟩ := h
  have ha : u.vm.Alike U.vm := by rw [hv]; exact Vm.Alike.refl u.vm
  exact ⟨fun w hw => va_Nw.same rfl hv.symm (h1 w hw), fun w hw => va_Nw.same rfl hv.symm (h2 w hw), fun w hw => vk_R.same hv (h3 w hw), h4.moved ha, va_Z.moved ha h5, va_Z.moved ha h6, va_X.moved ha h7, h8, h9, va_AO.moved ha h10⟩
theorem ZSf.kept {E : ZE} {A : Nat → Prop} {U : State} {H H1 : Heap} (hz : H.size ≤ H1.size) (hq : ∀ a : Nat, a < H.size → ¬ A a → H1[a]? = H[a]?) (h : ZSf E A U H) : ZSf E A U H1 := by
  obtain ⟨h1, h2, h3, h4, h5, h6, h7, h8, h9, h10⟩ := h
  exact ⟨h1, h2, h3, h4.kept hq, h5.kept hq, h6.kept hq, h7.kept (hq _ h8 h9), by omega, h9, h10⟩
theorem ZSf.narrow {E : ZE} {A B : Nat → Prop} {U : State} {H : Heap} (hAB : ∀ q, B q → A q) (h : ZSf E A U H) : ZSf E B U H := by
  obtain ⟨h1, h2, h3, h4, h5, h6, h7, h8, h9, h10⟩ := h
  exact ⟨h1, h2, h3, h4.narrow hAB, h5.narrow hAB, h6.narrow hAB, h7, h8, fun z => h9 (hAB _ z), h10⟩
/-! frames -/
def ZFix (M : ZMeth) (p : Program) (s : State) (mi : MethodId) (args : Array Value) (meth : Method) (c : Code) : Prop :=
  p.tables.exec = Jvm.exec ∧ c.code = M.2.1 ∧ c.maxLocals = M.2.2.1 ∧ s.vm.findClass M.1.cls = some mi.cls ∧ (∀ w ∈ zWs, w.before args s = true) ∧ meth.name = M.1.name
def zloc (E : ZE) (ad : Nat → Nat) (lsr : Array Slot) (n : Nat) (ls : List ZV) : Prop := lsr.size = n ∧ lv_wf lsr ∧ ∀ (i : Nat) (v : ZV), ls[i]? = some v → v.1 ≠ 9 → lsr[i]? = some (.val (zc E ad v))
def zst (E : ZE) (ad : Nat → Nat) (st : List ZV) : List Value := st.map (zc E ad)
def zrst (E : ZE) (ad : Nat → Nat) (r : ZV) : List Value := if r.1 = 9 then [] else [zc E ad r]
def zval (E : ZE) (ad : Nat → Nat) (r : ZV) : Option Value := if r.1 = 9 then none else some (zc E ad r)
def zretok (M : ZMeth) (r : ZV) : Prop := match M.2.2.2 with
  | none => r.1 = 9
  | some .int => r.1 = 0
  | some .boolean => r.1 = 0 ∧ 0 ≤ r.2 ∧ r.2 ≤ 1
  | some .long => r.1 = 1
  | some (.array _) => r.1 = 2
  | some .byte => r.1 = 0 ∧ -128 ≤ r.2 ∧ r.2 ≤ 127
  | some .char => r.1 = 0 ∧ 0 ≤ r.2 ∧ r.2 ≤ 65535
  | _ => False
def zretI (M : ZMeth) : Instr := match M.2.2.2 with
  | none => .return_
  | some .long => .lreturn
  | some (.array _) => .areturn
  | _ => .ireturn
def zRoom (d mc ms : Nat) : Room := { frames := d, cells := mc, slots := ms, locals := 60 * d }
abbrev ZQ : Type := ZV → ZK → ZM → Prop
/-- what the script is, where it is read -/
def zscr (X : Option (Nat × (Nat → Int))) (E : ZE) : Prop := ∀ L xs, X = some (L, xs) → E.2.2.2.1 = L ∧ L < 2 ^ 31 ∧ ∀ i, zin32 (xs i) ∧ E.2.2.2.2.1 i = Int32.ofInt (xs i)
def EvX (X : Option (Nat × (Nat → Int))) (d : Nat) (M : ZMeth) (mc ms : Nat) (pc : Nat) (ls st : List ZV) (kd : ZK) (m : ZM) (Q : ZQ) : Prop :=
  zokm kd m → (∀ v ∈ ls, zok kd v) → (∀ v ∈ st, zok kd v) →
  ∀ (E : ZE) (p : Program) (l : Launch) (e : Env) (R : Room) (s : State) (mi : MethodId) (args : Array Value) (below : List Frame) (meth : Method) (c : Code) (H : Heap) (locs : List Loc) (cells slots : Nat) (D : va_G) (A : Nat → Prop) (ad : Nat → Nat) (ca : Nat → ClassId) (tys : List (ClassId × FieldType)) (lsr : Array Slot) (Qs : State → Prop),
    ZFix M p s mi args meth c → (d ≤ R.frames ∧ 60 * d ≤ R.locals ∧ cells + mc ≤ R.cells ∧ slots + ms ≤ R.slots) →
    zscr X E → ZRel D A kd m ad ca tys s H → va_S A s.heap H locs → (∀ q, s.heap.size ≤ q → A q) → ZSf E A s s.heap → zloc E ad lsr M.2.2.1 ls →
    (∀ (r : ZV) (kd' : ZK) (m' : ZM) (H' : Heap) (locs' : List Loc) (cells' slots' : Nat) (ad' : Nat → Nat) (ca' : Nat → ClassId) (tys' : List (ClassId × FieldType)) (lsr' : Array Slot) (pc' : Nat), Q r kd' m' → zokm kd' m' → zok kd' r → zext kd ad ca kd' ad' ca' → ZRel D A kd' m' ad' ca' tys' s H' → va_S A s.heap H' locs' → cells' ≤ R.cells → slots' ≤ R.slots → zretok M r → decode M.2.1 pc' = .ok (zretI M, 1) → W p l e R s mi args below meth c H' locs' cells' slots' Qs (F0 mi pc' lsr' (zrst E ad' r))) →
    W p l e R s mi args below meth c H locs cells slots Qs (F0 mi pc lsr (zst E ad st))
abbrev Ev := EvX none
def ZPc (E : ZE) (D : va_G) (kd : ZK) (m : ZM) (ad : Nat → Nat) (ca : Nat → ClassId) (tys : List (ClassId × FieldType)) (sz : Nat) (as : List ZV) : Array Value → State → Prop :=
  va_Pc (zst E ad as) (fun U => U.heap.size = sz ∧ ZRel D (fun _ => True) kd m ad ca tys U U.heap ∧ ZSf E (va_A (zw kd ad ca m) sz) U U.heap)
def ZQc (E : ZE) (D : va_G) (kd : ZK) (m : ZM) (ad : Nat → Nat) (ca : Nat → ClassId) (sz : Nat) (Q : ZQ) : Array Value → State → Outcome → State → Prop := fun _ st o t =>
  (∃ (r : ZV) (kd' : ZK) (m' : ZM) (ad' : Nat → Nat) (ca' : Nat → ClassId) (tys' : List (ClassId × FieldType)), Q r kd' m' ∧ zokm kd' m' ∧ zok kd' r ∧ zext kd ad ca kd' ad' ca' ∧ o = .returned (zval E ad' r) ∧ ZRel D (va_A (zw kd ad ca m) sz) kd' m' ad' ca' tys' t t.heap) ∧ va_F (va_A (zw kd ad ca m) sz) st t
/-- the contract of a method, at these arguments and this heap -/
def Ct (d : Nat) (M : ZMeth) (mc ms : Nat) (as : List ZV) (kd : ZK) (m : ZM) (Q : ZQ) : Prop :=
  zokm kd m → (∀ v ∈ as, zok kd v) → ∀ (l : Launch) (E : ZE) (D : va_G) (ad : Nat → Nat) (ca : Nat → ClassId) (tys : List (ClassId × FieldType)) (sz : Nat),
    Met l M.1 (Cond.code M.1 M.2.1 M.2.2.1 M.2.2.2 :: zWs) (zRoom d mc ms) (ZPc E D kd m ad ca tys sz as) (ZQc E D kd m ad ca sz Q) mc ms (va_A (zw kd ad ca m) sz)
/-! numbers -/
theorem zi_toInt {x : Int} (h : zin32 x) : (Int32.ofInt x).toInt = x := by
  rw [Int32.toInt_ofInt]
  obtain ⟨h1, h2⟩ := h
  show x.bmod 4294967296 = x
  exact Int.bmod_eq_of_le (by omega) (by omega)
theorem zl_toInt {x : Int} (h : zin64 x) : (Int64.ofInt x).toInt = x := by
  rw [Int64.toInt_ofInt]
  obtain ⟨h1, h2⟩ := h
  show x.bmod 18446744073709551616 = x
  exact Int.bmod_eq_of_le (by omega) (by omega)
theorem zi_of (x : Int32) : Int32.ofInt x.toInt = x := Int32.ofInt_toInt x
theorem zl_of (x : Int64) : Int64.ofInt x.toInt = x := Int64.ofInt_toInt x
theorem zin_toInt (x : Int32) : zin32 x.toInt := ⟨Int32.le_toInt x, by have := Int32.toInt_lt x; omega⟩
theorem zinl_toInt (x : Int64) : zin64 x.toInt := ⟨Int64.le_toInt x, by have := Int64.toInt_lt x; omega⟩
theorem zin_iw (x : Int) : zin32 (iw x) := by
  have h1 := Int.bmod_lt (x := x) (m := 4294967296) (by decide)
  have h2 := Int.le_bmod (x := x) (m := 4294967296) (by decide)
  simp only [zin32, iw]
  omega
theorem zin_lw (x : Int) : zin64 (lw64 x) := by
  have h1 := Int.bmod_lt (x := x) (m := 18446744073709551616) (by decide)
  have h2 := Int.le_bmod (x := x) (m := 18446744073709551616) (by decide)
  simp only [zin64, lw64]
  omega
theorem iw_id {x : Int} (h : zin32 x) : iw x = x := by
  obtain ⟨h1, h2⟩ := h
  exact Int.bmod_eq_of_le (by omega) (by omega)
theorem iw_of {x : Int} (h1 : -2147483648 ≤ x) (h2 : x ≤ 2147483647) : iw x = x := iw_id ⟨h1, h2⟩
theorem lw_of {x : Int} (h1 : -9223372036854775808 ≤ x) (h2 : x ≤ 9223372036854775807) : lw64 x = x := Int.bmod_eq_of_le (by omega) (by omega)
theorem zi_iw (x : Int) : Int32.ofInt (iw x) = Int32.ofInt x := by
  apply Int32.toInt_inj.mp
  rw [Int32.toInt_ofInt, Int32.toInt_ofInt]
  exact Int.bmod_bmod ..
theorem zl_lw (x : Int) : Int64.ofInt (lw64 x) = Int64.ofInt x := by
  apply Int64.toInt_inj.mp
  rw [Int64.toInt_ofInt, Int64.toInt_ofInt]
  exact Int.bmod_bmod ..
theorem zi_inj {x y : Int} (hx : zin32 x) (hy : zin32 y) : Int32.ofInt x = Int32.ofInt y ↔ x = y := by
  rw [← Int32.toInt_inj, zi_toInt hx, zi_toInt hy]
theorem zi_lt {x y : Int} (hx : zin32 x) (hy : zin32 y) : Int32.ofInt x < Int32.ofInt y ↔ x < y := by
  rw [Int32.lt_iff_toInt_lt, zi_toInt hx, zi_toInt hy]
theorem zi_le {x y : Int} (hx : zin32 x) (hy : zin32 y) : Int32.ofInt x ≤ Int32.ofInt y ↔ x ≤ y := by
  rw [Int32.le_iff_toInt_le, zi_toInt hx, zi_toInt hy]
theorem zl_inj {x y : Int} (hx : zin64 x) (hy : zin64 y) : Int64.ofInt x = Int64.ofInt y ↔ x = y := by
  rw [← Int64.toInt_inj, zl_toInt hx, zl_toInt hy]
theorem zl_lt {x y : Int} (hx : zin64 x) (hy : zin64 y) : Int64.ofInt x < Int64.ofInt y ↔ x < y := by
  rw [Int64.lt_iff_toInt_lt, zl_toInt hx, zl_toInt hy]
theorem zi_0 : Int32.ofInt 0 = 0 := rfl
theorem zin_0 : zin32 0 := ⟨by decide, by decide⟩
theorem zi_div {x y : Int} (hx : zin32 x) (hy : zin32 y) : Int32.ofInt (iw (x.tdiv y)) = Int32.ofInt x / Int32.ofInt y := by
  rw [zi_iw]
  apply Int32.toInt_inj.mp
  rw [Int32.toInt_div, zi_toInt hx, zi_toInt hy, Int32.toInt_ofInt]
theorem zl_div {x y : Int} (hx : zin64 x) (hy : zin64 y) : Int64.ofInt (lw64 (x.tdiv y)) = Int64.ofInt x / Int64.ofInt y := by
  rw [zl_lw]
  apply Int64.toInt_inj.mp
  rw [Int64.toInt_div, zl_toInt hx, zl_toInt hy, Int64.toInt_ofInt]
theorem zi_rem {x y : Int} (hx : zin32 x) (hy : zin32 y) : Int32.ofInt (x.tmod y) = Int32.ofInt x - Int32.ofInt x / Int32.ofInt y * Int32.ofInt y := by
  rw [← zi_div hx hy, zi_iw, ← Int32.ofInt_mul, ← Int32.ofInt_sub]
  congr 1
  have := Int.tmod_add_mul_tdiv x y
  rw [Int.mul_comm] at this
  omega
theorem zl_rem {x y : Int} (hx : zin64 x) (hy : zin64 y) : Int64.ofInt (x.tmod y) = Int64.ofInt x - Int64.ofInt x / Int64.ofInt y * Int64.ofInt y := by
  rw [← zl_div hx hy, zl_lw, ← Int64.ofInt_mul, ← Int64.ofInt_sub]
  congr 1
  have := Int.tmod_add_mul_tdiv x y
  rw [Int.mul_comm] at this
  omega
theorem zabs_tmod (x y : Int) : (x.tmod y).natAbs ≤ x.natAbs := by
  rw [Int.natAbs_tmod]
  exact Nat.mod_le _ _
theorem zin_tmod {x y : Int} (hx : zin32 x) : zin32 (x.tmod y) := by
  have g := zabs_tmod x y
  obtain ⟨h1, h2⟩ := hx
  by_cases hx0 : 0 ≤ x
  · have := Int.tmod_nonneg y hx0
    simp only [zin32]; omega
  · have e : x.tmod y = -((-x).tmod y) := by rw [Int.neg_tmod, Int.neg_neg]
    have := Int.tmod_nonneg y (show 0 ≤ -x by omega)
    simp only [zin32]; omega
