/-! THE JDK'S OWN METHODS: of String constants; Math.floorMod -/
set_option maxRecDepth 20000 in
set_option maxHeartbeats 1000000 in
theorem T_Math_floorMod_0 {d : Nat} {kd : ZK} {m : ZM} {q : Int → ZM → Prop} {v0 v1 : Int} (h : (v1 ≠ 0 ∧ ((0 ≤ (zxor v0 v1) → q (Int.tmod v0 v1) m) ∧ (¬ 0 ≤ (zxor v0 v1) → (((Int.tmod v0 v1) = 0 → q (Int.tmod v0 v1) m) ∧ (¬ (Int.tmod v0 v1) = 0 → q (iw ((Int.tmod v0 v1) + v1)) m)))))) : Ev (d + 1) M_Math_floorMod 0 0 0 [(0, v0), (0, v1), zJ] [] kd m (zqI kd q) := by
  obtain ⟨o1, h⟩ := h
  refine EvX.blk (pc' := 7) [(.iload_n 0, 0, 0), (.iload_n 1, 0, 0), (.irem, 0, 0), (.istore_n 2, 0, 0), (.iload_n 0, 0, 0), (.iload_n 1, 0, 0), (.ixor, 0, 0)] (by decide +kernel) trivial ⟨o1, ?_⟩
  show Ev (d + 1) M_Math_floorMod 0 0 7 [(0, v0), (0, v1), (0, Int.tmod v0 v1)] [(0, zxor v0 v1)] kd m (zqI kd q)
  refine EvX.if_ge (off := 11) (tgt := 18) (by decide +kernel) (by decide) (fun hc => ?_) (fun hc => ?_)
  · have h := h.1 hc
    refine EvX.blk (pc' := 19) [(.iload_n 2, 0, 0)] (by decide +kernel) trivial ?_
    show Ev (d + 1) M_Math_floorMod 0 0 19 [(0, v0), (0, v1), (0, Int.tmod v0 v1)] [(0, Int.tmod v0 v1)] kd m (zqI kd q)
    exact EvX.ret (r := (0, Int.tmod v0 v1)) (by decide +kernel) rfl ⟨_, rfl, rfl, h⟩
  · have h := h.2 hc
    refine EvX.blk (pc' := 11) [(.iload_n 2, 0, 0)] (by decide +kernel) trivial ?_
    show Ev (d + 1) M_Math_floorMod 0 0 11 [(0, v0), (0, v1), (0, Int.tmod v0 v1)] [(0, Int.tmod v0 v1)] kd m (zqI kd q)
    refine EvX.if_eq (off := 7) (tgt := 18) (by decide +kernel) (by decide) (fun hc => ?_) (fun hc => ?_)
    · have h := h.1 hc
      refine EvX.blk (pc' := 19) [(.iload_n 2, 0, 0)] (by decide +kernel) trivial ?_
      show Ev (d + 1) M_Math_floorMod 0 0 19 [(0, v0), (0, v1), (0, Int.tmod v0 v1)] [(0, Int.tmod v0 v1)] kd m (zqI kd q)
      exact EvX.ret (r := (0, Int.tmod v0 v1)) (by decide +kernel) rfl ⟨_, rfl, rfl, h⟩
    · have h := h.2 hc
      refine EvX.blk (pc' := 17) [(.iload_n 2, 0, 0), (.iload_n 1, 0, 0), (.iadd, 0, 0)] (by decide +kernel) trivial ?_
      show Ev (d + 1) M_Math_floorMod 0 0 17 [(0, v0), (0, v1), (0, Int.tmod v0 v1)] [(0, iw ((Int.tmod v0 v1) + v1))] kd m (zqI kd q)
      exact EvX.ret (r := (0, iw ((Int.tmod v0 v1) + v1))) (by decide +kernel) rfl ⟨_, rfl, rfl, h⟩
theorem S_Math_floorMod {d : Nat} {kd : ZK} {m : ZM} {q : Int → ZM → Prop} {v0 v1 : Int} (h : (v1 ≠ 0 ∧ ((0 ≤ (zxor v0 v1) → q (Int.tmod v0 v1) m) ∧ (¬ 0 ≤ (zxor v0 v1) → (((Int.tmod v0 v1) = 0 → q (Int.tmod v0 v1) m) ∧ (¬ (Int.tmod v0 v1) = 0 → q (iw ((Int.tmod v0 v1) + v1)) m)))))) : CtI (d + 1) M_Math_floorMod [(0, v0), (0, v1)] kd m q :=
  Ct.startF (by decide +kernel) (Nat.le_of_ble_eq_true rfl) ⟨1, Or.inr (Or.inl ⟨rfl, rfl⟩)⟩ (T_Math_floorMod_0 h)
theorem j_cs : Cond.fieldLink "java/lang/String" 38 "java/lang/String" "COMPACT_STRINGS" "Z" ∈ zWs := zmem2 (i := 63) rfl rfl
theorem j_val : Cond.fieldLink "java/lang/String" 9 "java/lang/String" "value" "[B" ∈ zWs := zmem7 (i := 211) rfl rfl
theorem j_cod : Cond.fieldLink "java/lang/String" 15 "java/lang/String" "coder" "B" ∈ zWs := zmem7 (i := 212) rfl rfl
theorem j_sio : Cond.fieldLink "java/lang/String" 1053 "jdk/internal/util/Preconditions" "SIOOBE_FORMATTER" "Ljava/util/function/BiFunction;" ∈ zWs := zmem2 (i := 79) rfl rfl
theorem zshr0 {x : Int} (h : zin32 x) : zshr x 0 = x := by
  unfold zshr
  rw [show Int32.ofInt 0 = 0 from rfl, sb_shr0, zi_toInt h]
theorem c_Str_coder {d : Nat} {kd : ZK} {m : ZM} {i : Int} (hi : i.toNat < zsN) : CtI (d + 1) M_Str_coder [(3, i)] kd m (fun x m' => x = 0 ∧ m' = m) := by
  refine Ct.start k_Str_coder (Nat.le_of_ble_eq_true rfl) ⟨5, Or.inr (Or.inr (Or.inr (Or.inr (Or.inr (Or.inl ⟨rfl, rfl⟩)))))⟩ ?_
  refine EvX.getsC (idx := 38) (by decide +kernel) j_cs ?_
  refine EvX.if_eq (off := 10) (tgt := 13) (by decide +kernel) (by decide) (fun hc => by omega) (fun _ => ?_)
  refine EvX.aload_n (i := 0) (v := (3, i)) (by decide +kernel) rfl (Or.inr (Or.inl rfl)) ?_
  refine EvX.scod (idx := 15) (by decide +kernel) j_cod hi ?_
  refine EvX.goto (off := 4) (tgt := 14) (by decide +kernel) (by decide) ?_
  exact EvX.ret (r := (0, 0)) (by decide +kernel) ⟨rfl, by decide, by decide⟩ ⟨0, rfl, rfl, rfl, rfl⟩
theorem c_Str_length {d : Nat} {kd : ZK} {m : ZM} {i : Int} (hi : i.toNat < zsN) : CtI (d + 2) M_Str_length [(3, i)] kd m (fun x m' => x = zslen i ∧ m' = m) := by
  refine Ct.start k_Str_length (Nat.le_of_ble_eq_true rfl) ⟨1, Or.inr (Or.inl ⟨rfl, rfl⟩)⟩ ?_
  refine EvX.aload_n (i := 0) (v := (3, i)) (by decide +kernel) rfl (Or.inr (Or.inl rfl)) ?_
  refine EvX.sval (idx := 9) (by decide +kernel) j_val hi ?_
  refine EvX.sleA (by decide +kernel) hi ?_
  refine EvX.aload_n (i := 0) (v := (3, i)) (by decide +kernel) rfl (Or.inr (Or.inl rfl)) ?_
  refine EvX.callT (mc := 0) (ms := 0) (as := []) (st := [(0, zslen i)]) (by decide +kernel) l_Str_335 k_Str_coder v_Str_coder a_Str_coder (by decide) (Nat.le_of_ble_eq_true rfl) rfl hi (c_Str_coder hi) (fun r kd1 m1 hr => ?_)
  obtain ⟨x, rfl, hk, rfl, rfl⟩ := hr
  subst kd1
  show Ev (d + 2) M_Str_length 0 0 9 [(3, i)] [(0, 0), (0, zslen i)] kd m1 _
  refine EvX.ishr (by decide +kernel) ?_
  rw [zshr0 (by have := zslen_lt _ hi; simp only [zslen, zin32]; omega)]
  exact EvX.ret (r := (0, zslen i)) (by decide +kernel) rfl ⟨_, rfl, rfl, rfl, rfl⟩
theorem c_Str_isLatin1 {d : Nat} {kd : ZK} {m : ZM} {i : Int} (hi : i.toNat < zsN) : CtI (d + 1) M_Str_isLatin1 [(3, i)] kd m (fun x m' => x = 1 ∧ m' = m) := by
  refine Ct.start k_Str_isLatin1 (Nat.le_of_ble_eq_true rfl) ⟨2, Or.inr (Or.inr (Or.inl ⟨rfl, rfl⟩))⟩ ?_
  refine EvX.getsC (idx := 38) (by decide +kernel) j_cs ?_
  refine EvX.if_eq (off := 14) (tgt := 17) (by decide +kernel) (by decide) (fun hc => by omega) (fun _ => ?_)
  refine EvX.aload_n (i := 0) (v := (3, i)) (by decide +kernel) rfl (Or.inr (Or.inl rfl)) ?_
  refine EvX.scod (idx := 15) (by decide +kernel) j_cod hi ?_
  refine EvX.if_ne (off := 7) (tgt := 17) (by decide +kernel) (by decide) (fun hc => absurd rfl hc) (fun _ => ?_)
  refine EvX.iconst (n := 1) (by decide +kernel) ⟨by decide, by decide⟩ ?_
  refine EvX.goto (off := 4) (tgt := 18) (by decide +kernel) (by decide) ?_
  exact EvX.ret (r := (0, 1)) (by decide +kernel) ⟨rfl, by decide, by decide⟩ ⟨1, rfl, rfl, rfl, rfl⟩
theorem c_Pre_checkIndex {d : Nat} {kd : ZK} {m : ZM} {i n z : Int} (h : 0 ≤ i ∧ i < n) : CtI (d + 1) M_Pre_checkIndex [(0, i), (0, n), (6, z)] kd m (fun x m' => x = i ∧ m' = m) := by
  refine Ct.start k_Pre_checkIndex (Nat.le_of_ble_eq_true rfl) ⟨1, Or.inr (Or.inl ⟨rfl, rfl⟩)⟩ ?_
  refine EvX.iload_n (i := 0) (x := i) (by decide +kernel) rfl ?_
  refine EvX.if_lt (off := 8) (tgt := 9) (by decide +kernel) (by decide) (fun hc => by omega) (fun _ => ?_)
  refine EvX.iload_n (i := 0) (x := i) (by decide +kernel) rfl ?_
  refine EvX.iload_n (i := 1) (x := n) (by decide +kernel) rfl ?_
  refine EvX.icmp_lt (off := 10) (tgt := 16) (by decide +kernel) (by decide) (fun hc => ?_) (fun hc => by omega)
  refine EvX.iload_n (i := 0) (x := i) (by decide +kernel) rfl ?_
  exact EvX.ret (r := (0, i)) (by decide +kernel) rfl ⟨_, rfl, rfl, rfl, rfl⟩
theorem c_Str_checkIndex {d : Nat} {kd : ZK} {m : ZM} {i n : Int} (h : 0 ≤ i ∧ i < n) : CtV (d + 2) M_Str_checkIndex [(0, i), (0, n)] kd m (fun m' => m' = m) := by
  refine Ct.start k_Str_checkIndex (Nat.le_of_ble_eq_true rfl) ⟨0, Or.inl ⟨rfl, rfl⟩⟩ ?_
  refine EvX.iload_n (i := 0) (x := i) (by decide +kernel) rfl ?_
  refine EvX.iload_n (i := 1) (x := n) (by decide +kernel) rfl ?_
  refine EvX.getsF (idx := 1053) (by decide +kernel) j_sio ?_
  refine EvX.callS (mc := 0) (ms := 0) (as := [(0, i), (0, n), (6, 0)]) (st := []) (by decide +kernel) l_Str_1059 k_Pre_checkIndex s_Pre_checkIndex a_Pre_checkIndex (by decide) (Nat.le_of_ble_eq_true rfl) (c_Pre_checkIndex h) (fun r kd1 m1 hr => ?_)
  obtain ⟨x, rfl, hk, rfl, rfl⟩ := hr
  subst kd1
  show Ev (d + 2) M_Str_checkIndex 0 0 8 [(0, x), (0, n)] [(0, x)] kd m1 _
  refine EvX.pop (by decide +kernel) (fun q => by cases q) ?_
  exact EvX.ret (r := zJ) (by decide +kernel) rfl ⟨rfl, rfl, rfl⟩
def zsch (i k : Int) : Int := zand (zsbyte i k) 255
theorem zsb_all : ∀ i, i < zsN → (zsLen.getD i 0 = (zsByt.getD i []).length) ∧ ∀ b ∈ zsByt.getD i [], 0 ≤ b.toInt ∧ b.toInt ≤ 127 := by decide +kernel
theorem zand_255 {x : Int} (h0 : 0 ≤ x) (h1 : x ≤ 255) : zand x 255 = x := by
  have h : ∀ n : Nat, n < 256 → zand (n : Int) 255 = (n : Int) := by decide +kernel
  have := h x.toNat (by omega)
  rw [show ((x.toNat : Nat) : Int) = x by omega] at this
  exact this
theorem zsbyte_in {i k : Int} (hi : i.toNat < zsN) (hk : 0 ≤ k ∧ k < zslen i) : 0 ≤ zsbyte i k ∧ zsbyte i k ≤ 127 := by
  obtain ⟨h1, h2⟩ := zsb_all _ hi
  have hl : k.toNat < (zsByt.getD i.toNat []).length := by
    have := hk.2
    unfold zslen at this
    omega
  have e : (zsByt.getD i.toNat []).getD k.toNat 0 = (zsByt.getD i.toNat [])[k.toNat] := by
    rw [List.getD_eq_getElem?_getD, List.getElem?_eq_getElem hl]; rfl
  unfold zsbyte
  rw [e]
  exact h2 _ (List.getElem_mem hl)
theorem zsch_eq {i k : Int} (hi : i.toNat < zsN) (hk : 0 ≤ k ∧ k < zslen i) : zsch i k = zsbyte i k := by
  have := zsbyte_in hi hk
  exact zand_255 this.1 (by omega)
theorem c_Lat_charAt {d : Nat} {kd : ZK} {m : ZM} {i k : Int} (hi : i.toNat < zsN) (hk : 0 ≤ k ∧ k < zslen i) : CtI (d + 3) M_Lat_charAt [(5, i), (0, k)] kd m (fun x m' => x = zsbyte i k ∧ m' = m) := by
  refine Ct.start k_Lat_charAt (Nat.le_of_ble_eq_true rfl) ⟨6, Or.inr (Or.inr (Or.inr (Or.inr (Or.inr (Or.inr ⟨rfl, rfl⟩)))))⟩ ?_
  refine EvX.iload_n (i := 1) (x := k) (by decide +kernel) rfl ?_
  refine EvX.aload_n (i := 0) (v := (5, i)) (by decide +kernel) rfl (Or.inr (Or.inr (Or.inr (Or.inl rfl)))) ?_
  refine EvX.sleA (by decide +kernel) hi ?_
  refine EvX.callS (mc := 0) (ms := 0) (as := [(0, k), (0, zslen i)]) (st := []) (by decide +kernel) l_Lat_9 k_Str_checkIndex s_Str_checkIndex a_Str_checkIndex (by decide) (Nat.le_of_ble_eq_true rfl) (c_Str_checkIndex hk) (fun r kd1 m1 hr => ?_)
  obtain ⟨rfl, hk1, rfl⟩ := hr
  subst kd1
  show Ev (d + 3) M_Lat_charAt 0 0 6 [(5, i), (0, k)] [] kd m1 _
  refine EvX.aload_n (i := 0) (v := (5, i)) (by decide +kernel) rfl (Or.inr (Or.inr (Or.inr (Or.inl rfl)))) ?_
  refine EvX.iload_n (i := 1) (x := k) (by decide +kernel) rfl ?_
  refine EvX.sbld (by decide +kernel) hi hk ?_
  refine EvX.sipush (n := 255) (by decide +kernel) ⟨by decide, by decide⟩ (by decide +kernel) ?_
  refine EvX.iand (by decide +kernel) ?_
  have e := zsch_eq hi hk
  have hb := zsbyte_in hi hk
  unfold zsch at e
  rw [e]
  refine EvX.i2c (by decide +kernel) ⟨by omega, by omega⟩ ?_
  exact EvX.ret (r := (0, zsbyte i k)) (by decide +kernel) ⟨rfl, by show 0 ≤ zsbyte i k; omega, by show zsbyte i k ≤ 65535; omega⟩ ⟨_, rfl, rfl, rfl, rfl⟩
theorem c_Str_charAt {d : Nat} {kd : ZK} {m : ZM} {i k : Int} (hi : i.toNat < zsN) (hk : 0 ≤ k ∧ k < zslen i) : CtI (d + 4) M_Str_charAt [(3, i), (0, k)] kd m (fun x m' => x = zsbyte i k ∧ m' = m) := by
  refine Ct.start k_Str_charAt (Nat.le_of_ble_eq_true rfl) ⟨6, Or.inr (Or.inr (Or.inr (Or.inr (Or.inr (Or.inr ⟨rfl, rfl⟩)))))⟩ ?_
  refine EvX.aload_n (i := 0) (v := (3, i)) (by decide +kernel) rfl (Or.inr (Or.inl rfl)) ?_
  refine EvX.callT (mc := 0) (ms := 0) (as := []) (st := []) (by decide +kernel) l_Str_492 k_Str_isLatin1 v_Str_isLatin1 a_Str_isLatin1 (by decide) (Nat.le_of_ble_eq_true rfl) rfl hi (c_Str_isLatin1 hi) (fun r kd1 m1 hr => ?_)
  obtain ⟨x, rfl, hk1, rfl, rfl⟩ := hr
  subst kd1
  show Ev (d + 4) M_Str_charAt 0 0 4 [(3, i), (0, k)] [(0, 1)] kd m1 _
  refine EvX.if_eq (off := 12) (tgt := 16) (by decide +kernel) (by decide) (fun hc => by omega) (fun _ => ?_)
  refine EvX.aload_n (i := 0) (v := (3, i)) (by decide +kernel) rfl (Or.inr (Or.inl rfl)) ?_
  refine EvX.sval (idx := 9) (by decide +kernel) j_val hi ?_
  refine EvX.iload_n (i := 1) (x := k) (by decide +kernel) rfl ?_
  refine EvX.callS (mc := 0) (ms := 0) (as := [(5, i), (0, k)]) (st := []) (by decide +kernel) l_Str_495 k_Lat_charAt s_Lat_charAt a_Lat_charAt (by decide) (Nat.le_of_ble_eq_true rfl) (c_Lat_charAt hi hk) (fun r kd1 m2 hr => ?_)
  obtain ⟨x, rfl, hk1, rfl, rfl⟩ := hr
  subst kd1
  have hb := zsbyte_in hi hk
  show Ev (d + 4) M_Str_charAt 0 0 15 [(3, i), (0, k)] [(0, zsbyte i k)] kd m2 _
  exact EvX.ret (r := (0, zsbyte i k)) (by decide +kernel) ⟨rfl, by show 0 ≤ zsbyte i k; omega, by show zsbyte i k ≤ 65535; omega⟩ ⟨_, rfl, rfl, rfl, rfl⟩
