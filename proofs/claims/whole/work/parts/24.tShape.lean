/-! TREES of ApartGames$Shape: by program (wip/whole/gen_trees.py) -/
set_option maxRecDepth 20000 in
set_option maxHeartbeats 1000000 in
theorem T_Shape_partsOf_0 {d : Nat} {kd : ZK} {m : ZM} {q : Int → ZM → Prop} {v0 v1 : Int} (h : (zobj kd v0 4 ∧ ∃ q1, CtV d M_Shape_markParts [(2, v0), (2, v1)] kd m q1 ∧ ∀ m3, q1 m3 → (Ev (d + 1) M_Shape_partsOf 0 0 9 [(2, v0), zJ, (0, 0), (0, 0)] [] kd m3 (zqI kd q)))) : Ev (d + 1) M_Shape_partsOf 0 0 0 [(2, v0), (2, v1), zJ, zJ] [] kd m (zqI kd q) := by
  refine EvX.blk (pc' := 2) [(.aload_n 0, 0, 0), (.aload_n 1, 0, 0)] (by decide +kernel) trivial ?_
  show Ev (d + 1) M_Shape_partsOf 0 0 2 [(2, v0), (2, v1), zJ, zJ] [(2, v1), (2, v0)] kd m (zqI kd q)
  obtain ⟨ov, h⟩ := h
  obtain ⟨q1, hq, h⟩ := h
  refine EvX.callV (c := 4) (mc := 0) (ms := 0) (as := [(2, v1)]) (st := []) (by decide +kernel) l_Shape_21 k_Shape_markParts v_Shape_markParts a_Shape_markParts (by decide) (Nat.le_of_ble_eq_true rfl) rfl ov hq (fun r kd1 m3 hr => ?_)
  obtain ⟨rfl, hk, hr⟩ := hr
  subst kd1
  have h := h m3 hr
  show Ev (d + 1) M_Shape_partsOf 0 0 5 [(2, v0), (2, v1), zJ, zJ] [] kd m3 (zqI kd q)
  refine EvX.blk (pc' := 9) [(.iconst 0, 0, 0), (.istore_n 2, 0, 0), (.iconst 0, 0, 0), (.istore_n 3, 0, 0)] (by decide +kernel) trivial ?_
  show Ev (d + 1) M_Shape_partsOf 0 0 9 [(2, v0), (2, v1), (0, 0), (0, 0)] [] kd m3 (zqI kd q)
  exact EvX.weak (ls2 := [(2, v0), zJ, (0, 0), (0, 0)]) (zwk_of ⟨Or.inr rfl, Or.inl rfl, Or.inr rfl, Or.inr rfl, trivial⟩) h
theorem S_Shape_partsOf {d : Nat} {kd : ZK} {m : ZM} {q : Int → ZM → Prop} {v0 v1 : Int} (h : (zobj kd v0 4 ∧ ∃ q1, CtV d M_Shape_markParts [(2, v0), (2, v1)] kd m q1 ∧ ∀ m3, q1 m3 → (Ev (d + 1) M_Shape_partsOf 0 0 9 [(2, v0), zJ, (0, 0), (0, 0)] [] kd m3 (zqI kd q)))) : CtI (d + 1) M_Shape_partsOf [(2, v0), (2, v1)] kd m q :=
  Ct.start k_Shape_partsOf (Nat.le_of_ble_eq_true rfl) ⟨1, Or.inr (Or.inl ⟨rfl, rfl⟩)⟩ (T_Shape_partsOf_0 h)
set_option maxRecDepth 20000 in
set_option maxHeartbeats 1000000 in
theorem T_Shape_partsOf_9 {d : Nat} {kd : ZK} {m : ZM} {q : Int → ZM → Prop} {v0 v2 v3 : Int} (h : (zobj kd v0 4 ∧ zarr kd (m v0 0) 0 10 ∧ ((10 ≤ v3 → q v2 m) ∧ (¬ 10 ≤ v3 → (zobj kd v0 4 ∧ zIn kd (m v0 0) 0 v3 ∧ (((m (m v0 0) v3) ≠ v3 → (Ev (d + 1) M_Shape_partsOf 0 0 9 [(2, v0), zJ, (0, v2), (0, iw (v3 + 1))] [] kd m (zqI kd q))) ∧ (¬ (m (m v0 0) v3) ≠ v3 → (Ev (d + 1) M_Shape_partsOf 0 0 9 [(2, v0), zJ, (0, iw (v2 + 1)), (0, iw (v3 + 1))] [] kd m (zqI kd q))))))))) : Ev (d + 1) M_Shape_partsOf 0 0 9 [(2, v0), zJ, (0, v2), (0, v3)] [] kd m (zqI kd q) := by
  obtain ⟨o1, o2, h⟩ := h
  refine EvX.blk (pc' := 15) [(.iload_n 3, 0, 0), (.aload_n 0, 0, 0), (.getfield 9, 4, 0), (.arraylength, 0, 10)] (by decide +kernel) ⟨g_Shape_9, trivial⟩ ⟨o1, ⟨by decide, by decide, by decide⟩, o2, ?_⟩
  show Ev (d + 1) M_Shape_partsOf 0 0 15 [(2, v0), zJ, (0, v2), (0, v3)] [(0, 10), (0, v3)] kd m (zqI kd q)
  refine EvX.icmp_ge (off := 22) (tgt := 37) (by decide +kernel) (by decide) (fun hc => ?_) (fun hc => ?_)
  · have h := h.1 hc
    refine EvX.blk (pc' := 38) [(.iload_n 2, 0, 0)] (by decide +kernel) trivial ?_
    show Ev (d + 1) M_Shape_partsOf 0 0 38 [(2, v0), zJ, (0, v2), (0, v3)] [(0, v2)] kd m (zqI kd q)
    exact EvX.ret (r := (0, v2)) (by decide +kernel) rfl ⟨_, rfl, rfl, h⟩
  · have h := h.2 hc
    obtain ⟨o1, o2, h⟩ := h
    refine EvX.blk (pc' := 25) [(.aload_n 0, 0, 0), (.getfield 9, 4, 0), (.iload_n 3, 0, 0), (.iaload, 0, 0), (.iload_n 3, 0, 0)] (by decide +kernel) ⟨g_Shape_9, trivial⟩ ⟨o1, o2, ?_⟩
    show Ev (d + 1) M_Shape_partsOf 0 0 25 [(2, v0), zJ, (0, v2), (0, v3)] [(0, v3), (0, m (m v0 0) v3)] kd m (zqI kd q)
    refine EvX.icmp_ne (off := 6) (tgt := 31) (by decide +kernel) (by decide) (fun hc => ?_) (fun hc => ?_)
    · have h := h.1 hc
      refine EvX.blk (pc' := 34) [(.iinc 3 1, 0, 0)] (by decide +kernel) trivial ?_
      show Ev (d + 1) M_Shape_partsOf 0 0 34 [(2, v0), zJ, (0, v2), (0, iw (v3 + 1))] [] kd m (zqI kd q)
      refine EvX.goto (off := (-25)) (tgt := 9) (by decide +kernel) (by decide) ?_
      exact h
    · have h := h.2 hc
      refine EvX.blk (pc' := 34) [(.iinc 2 1, 0, 0), (.iinc 3 1, 0, 0)] (by decide +kernel) trivial ?_
      show Ev (d + 1) M_Shape_partsOf 0 0 34 [(2, v0), zJ, (0, iw (v2 + 1)), (0, iw (v3 + 1))] [] kd m (zqI kd q)
      refine EvX.goto (off := (-25)) (tgt := 9) (by decide +kernel) (by decide) ?_
      exact h
set_option maxRecDepth 20000 in
set_option maxHeartbeats 1000000 in
theorem T_Shape_greatestPartOf_0 {d : Nat} {kd : ZK} {m : ZM} {q : Int → ZM → Prop} {v0 v1 : Int} (h : (zobj kd v0 4 ∧ ∃ q1, CtV d M_Shape_markParts [(2, v0), (2, v1)] kd m q1 ∧ ∀ m3, q1 m3 → (Ev (d + 1) M_Shape_greatestPartOf 0 0 9 [(2, v0), zJ, (0, 0), (0, 0), zJ, zJ] [] kd m3 (zqI kd q)))) : Ev (d + 1) M_Shape_greatestPartOf 0 0 0 [(2, v0), (2, v1), zJ, zJ, zJ, zJ] [] kd m (zqI kd q) := by
  refine EvX.blk (pc' := 2) [(.aload_n 0, 0, 0), (.aload_n 1, 0, 0)] (by decide +kernel) trivial ?_
  show Ev (d + 1) M_Shape_greatestPartOf 0 0 2 [(2, v0), (2, v1), zJ, zJ, zJ, zJ] [(2, v1), (2, v0)] kd m (zqI kd q)
  obtain ⟨ov, h⟩ := h
  obtain ⟨q1, hq, h⟩ := h
  refine EvX.callV (c := 4) (mc := 0) (ms := 0) (as := [(2, v1)]) (st := []) (by decide +kernel) l_Shape_21 k_Shape_markParts v_Shape_markParts a_Shape_markParts (by decide) (Nat.le_of_ble_eq_true rfl) rfl ov hq (fun r kd1 m3 hr => ?_)
  obtain ⟨rfl, hk, hr⟩ := hr
  subst kd1
  have h := h m3 hr
  show Ev (d + 1) M_Shape_greatestPartOf 0 0 5 [(2, v0), (2, v1), zJ, zJ, zJ, zJ] [] kd m3 (zqI kd q)
  refine EvX.blk (pc' := 9) [(.iconst 0, 0, 0), (.istore_n 2, 0, 0), (.iconst 0, 0, 0), (.istore_n 3, 0, 0)] (by decide +kernel) trivial ?_
  show Ev (d + 1) M_Shape_greatestPartOf 0 0 9 [(2, v0), (2, v1), (0, 0), (0, 0), zJ, zJ] [] kd m3 (zqI kd q)
  exact EvX.weak (ls2 := [(2, v0), zJ, (0, 0), (0, 0), zJ, zJ]) (zwk_of ⟨Or.inr rfl, Or.inl rfl, Or.inr rfl, Or.inr rfl, Or.inl rfl, Or.inl rfl, trivial⟩) h
theorem S_Shape_greatestPartOf {d : Nat} {kd : ZK} {m : ZM} {q : Int → ZM → Prop} {v0 v1 : Int} (h : (zobj kd v0 4 ∧ ∃ q1, CtV d M_Shape_markParts [(2, v0), (2, v1)] kd m q1 ∧ ∀ m3, q1 m3 → (Ev (d + 1) M_Shape_greatestPartOf 0 0 9 [(2, v0), zJ, (0, 0), (0, 0), zJ, zJ] [] kd m3 (zqI kd q)))) : CtI (d + 1) M_Shape_greatestPartOf [(2, v0), (2, v1)] kd m q :=
  Ct.start k_Shape_greatestPartOf (Nat.le_of_ble_eq_true rfl) ⟨1, Or.inr (Or.inl ⟨rfl, rfl⟩)⟩ (T_Shape_greatestPartOf_0 h)
set_option maxRecDepth 20000 in
set_option maxHeartbeats 1000000 in
theorem T_Shape_greatestPartOf_9 {d : Nat} {kd : ZK} {m : ZM} {q : Int → ZM → Prop} {v0 v2 v3 : Int} (h : (zobj kd v0 4 ∧ zarr kd (m v0 0) 0 10 ∧ ((10 ≤ v3 → q v2 m) ∧ (¬ 10 ≤ v3 → (Ev (d + 1) M_Shape_greatestPartOf 0 0 24 [(2, v0), zJ, (0, v2), (0, v3), (0, 0), (0, 0)] [] kd m (zqI kd q)))))) : Ev (d + 1) M_Shape_greatestPartOf 0 0 9 [(2, v0), zJ, (0, v2), (0, v3), zJ, zJ] [] kd m (zqI kd q) := by
  obtain ⟨o1, o2, h⟩ := h
  refine EvX.blk (pc' := 15) [(.iload_n 3, 0, 0), (.aload_n 0, 0, 0), (.getfield 9, 4, 0), (.arraylength, 0, 10)] (by decide +kernel) ⟨g_Shape_9, trivial⟩ ⟨o1, ⟨by decide, by decide, by decide⟩, o2, ?_⟩
  show Ev (d + 1) M_Shape_greatestPartOf 0 0 15 [(2, v0), zJ, (0, v2), (0, v3), zJ, zJ] [(0, 10), (0, v3)] kd m (zqI kd q)
  refine EvX.icmp_ge (off := 52) (tgt := 67) (by decide +kernel) (by decide) (fun hc => ?_) (fun hc => ?_)
  · have h := h.1 hc
    refine EvX.blk (pc' := 68) [(.iload_n 2, 0, 0)] (by decide +kernel) trivial ?_
    show Ev (d + 1) M_Shape_greatestPartOf 0 0 68 [(2, v0), zJ, (0, v2), (0, v3), zJ, zJ] [(0, v2)] kd m (zqI kd q)
    exact EvX.ret (r := (0, v2)) (by decide +kernel) rfl ⟨_, rfl, rfl, h⟩
  · have h := h.2 hc
    refine EvX.blk (pc' := 24) [(.iconst 0, 0, 0), (.istore 4, 0, 0), (.iconst 0, 0, 0), (.istore 5, 0, 0)] (by decide +kernel) trivial ?_
    show Ev (d + 1) M_Shape_greatestPartOf 0 0 24 [(2, v0), zJ, (0, v2), (0, v3), (0, 0), (0, 0)] [] kd m (zqI kd q)
    exact h
set_option maxRecDepth 20000 in
set_option maxHeartbeats 1000000 in
theorem T_Shape_greatestPartOf_24 {d : Nat} {kd : ZK} {m : ZM} {q : Int → ZM → Prop} {v0 v2 v3 v4 v5 : Int} (h : (zobj kd v0 4 ∧ zarr kd (m v0 0) 0 10 ∧ ((10 ≤ v5 → (Ev (d + 1) M_Shape_greatestPartOf 0 0 9 [(2, v0), zJ, (0, zmax v2 v4), (0, iw (v3 + 1)), zJ, zJ] [] kd m (zqI kd q))) ∧ (¬ 10 ≤ v5 → (zobj kd v0 4 ∧ zIn kd (m v0 0) 0 v5 ∧ (((m (m v0 0) v5) ≠ v3 → (Ev (d + 1) M_Shape_greatestPartOf 0 0 24 [(2, v0), zJ, (0, v2), (0, v3), (0, v4), (0, iw (v5 + 1))] [] kd m (zqI kd q))) ∧ (¬ (m (m v0 0) v5) ≠ v3 → (Ev (d + 1) M_Shape_greatestPartOf 0 0 24 [(2, v0), zJ, (0, v2), (0, v3), (0, iw (v4 + 1)), (0, iw (v5 + 1))] [] kd m (zqI kd q))))))))) : Ev (d + 1) M_Shape_greatestPartOf 0 0 24 [(2, v0), zJ, (0, v2), (0, v3), (0, v4), (0, v5)] [] kd m (zqI kd q) := by
  obtain ⟨o1, o2, h⟩ := h
  refine EvX.blk (pc' := 31) [(.iload 5, 0, 0), (.aload_n 0, 0, 0), (.getfield 9, 4, 0), (.arraylength, 0, 10)] (by decide +kernel) ⟨g_Shape_9, trivial⟩ ⟨o1, ⟨by decide, by decide, by decide⟩, o2, ?_⟩
  show Ev (d + 1) M_Shape_greatestPartOf 0 0 31 [(2, v0), zJ, (0, v2), (0, v3), (0, v4), (0, v5)] [(0, 10), (0, v5)] kd m (zqI kd q)
  refine EvX.icmp_ge (off := 23) (tgt := 54) (by decide +kernel) (by decide) (fun hc => ?_) (fun hc => ?_)
  · have h := h.1 hc
    refine EvX.blk (pc' := 57) [(.iload_n 2, 0, 0), (.iload 4, 0, 0)] (by decide +kernel) trivial ?_
    show Ev (d + 1) M_Shape_greatestPartOf 0 0 57 [(2, v0), zJ, (0, v2), (0, v3), (0, v4), (0, v5)] [(0, v4), (0, v2)] kd m (zqI kd q)
    refine EvX.mmax' (by decide +kernel) y_Shape_25 (Nat.le_of_ble_eq_true rfl) ?_
    show Ev (d + 1) M_Shape_greatestPartOf 0 0 60 [(2, v0), zJ, (0, v2), (0, v3), (0, v4), (0, v5)] [(0, zmax v2 v4)] kd m (zqI kd q)
    refine EvX.blk (pc' := 64) [(.istore_n 2, 0, 0), (.iinc 3 1, 0, 0)] (by decide +kernel) trivial ?_
    show Ev (d + 1) M_Shape_greatestPartOf 0 0 64 [(2, v0), zJ, (0, zmax v2 v4), (0, iw (v3 + 1)), (0, v4), (0, v5)] [] kd m (zqI kd q)
    refine EvX.goto (off := (-55)) (tgt := 9) (by decide +kernel) (by decide) ?_
    exact EvX.weak (ls2 := [(2, v0), zJ, (0, zmax v2 v4), (0, iw (v3 + 1)), zJ, zJ]) (zwk_of ⟨Or.inr rfl, Or.inl rfl, Or.inr rfl, Or.inr rfl, Or.inl rfl, Or.inl rfl, trivial⟩) h
  · have h := h.2 hc
    obtain ⟨o1, o2, h⟩ := h
    refine EvX.blk (pc' := 42) [(.aload_n 0, 0, 0), (.getfield 9, 4, 0), (.iload 5, 0, 0), (.iaload, 0, 0), (.iload_n 3, 0, 0)] (by decide +kernel) ⟨g_Shape_9, trivial⟩ ⟨o1, o2, ?_⟩
    show Ev (d + 1) M_Shape_greatestPartOf 0 0 42 [(2, v0), zJ, (0, v2), (0, v3), (0, v4), (0, v5)] [(0, v3), (0, m (m v0 0) v5)] kd m (zqI kd q)
    refine EvX.icmp_ne (off := 6) (tgt := 48) (by decide +kernel) (by decide) (fun hc => ?_) (fun hc => ?_)
    · have h := h.1 hc
      refine EvX.blk (pc' := 51) [(.iinc 5 1, 0, 0)] (by decide +kernel) trivial ?_
      show Ev (d + 1) M_Shape_greatestPartOf 0 0 51 [(2, v0), zJ, (0, v2), (0, v3), (0, v4), (0, iw (v5 + 1))] [] kd m (zqI kd q)
      refine EvX.goto (off := (-27)) (tgt := 24) (by decide +kernel) (by decide) ?_
      exact h
    · have h := h.2 hc
      refine EvX.blk (pc' := 51) [(.iinc 4 1, 0, 0), (.iinc 5 1, 0, 0)] (by decide +kernel) trivial ?_
      show Ev (d + 1) M_Shape_greatestPartOf 0 0 51 [(2, v0), zJ, (0, v2), (0, v3), (0, iw (v4 + 1)), (0, iw (v5 + 1))] [] kd m (zqI kd q)
      refine EvX.goto (off := (-27)) (tgt := 24) (by decide +kernel) (by decide) ?_
      exact h
set_option maxRecDepth 20000 in
set_option maxHeartbeats 1000000 in
theorem T_Shape_markParts_0 {d : Nat} {kd : ZK} {m : ZM} {q : ZM → Prop} {v0 v1 : Int} (h : (Ev (d + 1) M_Shape_markParts 0 0 2 [(2, v0), (2, v1), (0, 0), zJ] [] kd m (zqV kd q))) : Ev (d + 1) M_Shape_markParts 0 0 0 [(2, v0), (2, v1), zJ, zJ] [] kd m (zqV kd q) := by
  refine EvX.blk (pc' := 2) [(.iconst 0, 0, 0), (.istore_n 2, 0, 0)] (by decide +kernel) trivial ?_
  show Ev (d + 1) M_Shape_markParts 0 0 2 [(2, v0), (2, v1), (0, 0), zJ] [] kd m (zqV kd q)
  exact h
theorem S_Shape_markParts {d : Nat} {kd : ZK} {m : ZM} {q : ZM → Prop} {v0 v1 : Int} (h : (Ev (d + 1) M_Shape_markParts 0 0 2 [(2, v0), (2, v1), (0, 0), zJ] [] kd m (zqV kd q))) : CtV (d + 1) M_Shape_markParts [(2, v0), (2, v1)] kd m q :=
  Ct.start k_Shape_markParts (Nat.le_of_ble_eq_true rfl) ⟨0, Or.inl ⟨rfl, rfl⟩⟩ (T_Shape_markParts_0 h)
set_option maxRecDepth 20000 in
set_option maxHeartbeats 1000000 in
theorem T_Shape_markParts_2 {d : Nat} {kd : ZK} {m : ZM} {q : ZM → Prop} {v0 v1 v2 : Int} (h : ((5 ≤ v2 → (Ev (d + 1) M_Shape_markParts 0 0 57 [(2, v0), (2, v1), (0, 0), zJ] [] kd m (zqV kd q))) ∧ (¬ 5 ≤ v2 → (zobj kd v0 4 ∧ zobj kd v1 1 ∧ (((m v1 0) ≤ v2 → (Ev (d + 1) M_Shape_markParts 0 0 25 [(2, v0), (2, v1), (0, v2), zJ] [(0, (-1)), (0, v2), (2, m v0 0)] kd m (zqV kd q))) ∧ (¬ (m v1 0) ≤ v2 → (Ev (d + 1) M_Shape_markParts 0 0 25 [(2, v0), (2, v1), (0, v2), zJ] [(0, v2), (0, v2), (2, m v0 0)] kd m (zqV kd q)))))))) : Ev (d + 1) M_Shape_markParts 0 0 2 [(2, v0), (2, v1), (0, v2), zJ] [] kd m (zqV kd q) := by
  refine EvX.blk (pc' := 4) [(.iload_n 2, 0, 0), (.iconst 5, 0, 0)] (by decide +kernel) trivial ?_
  show Ev (d + 1) M_Shape_markParts 0 0 4 [(2, v0), (2, v1), (0, v2), zJ] [(0, 5), (0, v2)] kd m (zqV kd q)
  refine EvX.icmp_ge (off := 51) (tgt := 55) (by decide +kernel) (by decide) (fun hc => ?_) (fun hc => ?_)
  · have h := h.1 hc
    refine EvX.blk (pc' := 57) [(.iconst 0, 0, 0), (.istore_n 2, 0, 0)] (by decide +kernel) trivial ?_
    show Ev (d + 1) M_Shape_markParts 0 0 57 [(2, v0), (2, v1), (0, 0), zJ] [] kd m (zqV kd q)
    exact h
  · have h := h.2 hc
    obtain ⟨o1, o2, h⟩ := h
    refine EvX.blk (pc' := 17) [(.aload_n 0, 0, 0), (.getfield 9, 4, 0), (.iload_n 2, 0, 0), (.iload_n 2, 0, 0), (.aload_n 1, 0, 0), (.getfield 31, 1, 0)] (by decide +kernel) ⟨g_Shape_9, g_Shape_31, trivial⟩ ⟨o1, o2, ?_⟩
    show Ev (d + 1) M_Shape_markParts 0 0 17 [(2, v0), (2, v1), (0, v2), zJ] [(0, m v1 0), (0, v2), (0, v2), (2, m v0 0)] kd m (zqV kd q)
    refine EvX.icmp_ge (off := 7) (tgt := 24) (by decide +kernel) (by decide) (fun hc => ?_) (fun hc => ?_)
    · have h := h.1 hc
      refine EvX.blk (pc' := 25) [(.iconst (-1), 0, 0)] (by decide +kernel) trivial ?_
      show Ev (d + 1) M_Shape_markParts 0 0 25 [(2, v0), (2, v1), (0, v2), zJ] [(0, (-1)), (0, v2), (2, m v0 0)] kd m (zqV kd q)
      exact h
    · have h := h.2 hc
      refine EvX.blk (pc' := 21) [(.iload_n 2, 0, 0)] (by decide +kernel) trivial ?_
      show Ev (d + 1) M_Shape_markParts 0 0 21 [(2, v0), (2, v1), (0, v2), zJ] [(0, v2), (0, v2), (2, m v0 0)] kd m (zqV kd q)
      refine EvX.goto (off := 4) (tgt := 25) (by decide +kernel) (by decide) ?_
      exact h
set_option maxRecDepth 20000 in
set_option maxHeartbeats 1000000 in
theorem T_Shape_markParts_25 {d : Nat} {kd : ZK} {m : ZM} {q : ZM → Prop} {v0 v1 v2 s0 s1 s2 : Int} (h : (zIn kd s0 0 s1 ∧ zobj kd v0 4 ∧ zobj kd v1 1 ∧ ((((zup m s0 s1 s2) v1 1) ≤ v2 → (zIn kd ((zup m s0 s1 s2) v0 0) 0 (iw (5 + v2)) ∧ (Ev (d + 1) M_Shape_markParts 0 0 2 [(2, v0), (2, v1), (0, iw (v2 + 1)), zJ] [] kd (zup (zup m s0 s1 s2) ((zup m s0 s1 s2) v0 0) (iw (5 + v2)) (-1)) (zqV kd q)))) ∧ (¬ ((zup m s0 s1 s2) v1 1) ≤ v2 → (zIn kd ((zup m s0 s1 s2) v0 0) 0 (iw (5 + v2)) ∧ (Ev (d + 1) M_Shape_markParts 0 0 2 [(2, v0), (2, v1), (0, iw (v2 + 1)), zJ] [] kd (zup (zup m s0 s1 s2) ((zup m s0 s1 s2) v0 0) (iw (5 + v2)) (iw (5 + v2))) (zqV kd q))))))) : Ev (d + 1) M_Shape_markParts 0 0 25 [(2, v0), (2, v1), (0, v2), zJ] [(0, s2), (0, s1), (2, s0)] kd m (zqV kd q) := by
  obtain ⟨o1, o2, o3, h⟩ := h
  refine EvX.blk (pc' := 38) [(.iastore, 0, 0), (.aload_n 0, 0, 0), (.getfield 9, 4, 0), (.iconst 5, 0, 0), (.iload_n 2, 0, 0), (.iadd, 0, 0), (.iload_n 2, 0, 0), (.aload_n 1, 0, 0), (.getfield 37, 1, 1)] (by decide +kernel) ⟨g_Shape_9, g_Shape_37, trivial⟩ ⟨o1, o2, o3, ?_⟩
  show Ev (d + 1) M_Shape_markParts 0 0 38 [(2, v0), (2, v1), (0, v2), zJ] [(0, (zup m s0 s1 s2) v1 1), (0, v2), (0, iw (5 + v2)), (2, (zup m s0 s1 s2) v0 0)] kd (zup m s0 s1 s2) (zqV kd q)
  refine EvX.icmp_ge (off := 9) (tgt := 47) (by decide +kernel) (by decide) (fun hc => ?_) (fun hc => ?_)
  · have h := h.1 hc
    obtain ⟨o1, h⟩ := h
    refine EvX.blk (pc' := 52) [(.iconst (-1), 0, 0), (.iastore, 0, 0), (.iinc 2 1, 0, 0)] (by decide +kernel) trivial ⟨o1, ?_⟩
    show Ev (d + 1) M_Shape_markParts 0 0 52 [(2, v0), (2, v1), (0, iw (v2 + 1)), zJ] [] kd (zup (zup m s0 s1 s2) ((zup m s0 s1 s2) v0 0) (iw (5 + v2)) (-1)) (zqV kd q)
    refine EvX.goto (off := (-50)) (tgt := 2) (by decide +kernel) (by decide) ?_
    exact h
  · have h := h.2 hc
    refine EvX.blk (pc' := 44) [(.iconst 5, 0, 0), (.iload_n 2, 0, 0), (.iadd, 0, 0)] (by decide +kernel) trivial ?_
    show Ev (d + 1) M_Shape_markParts 0 0 44 [(2, v0), (2, v1), (0, v2), zJ] [(0, iw (5 + v2)), (0, iw (5 + v2)), (2, (zup m s0 s1 s2) v0 0)] kd (zup m s0 s1 s2) (zqV kd q)
    refine EvX.goto (off := 4) (tgt := 48) (by decide +kernel) (by decide) ?_
    obtain ⟨o1, h⟩ := h
    refine EvX.blk (pc' := 52) [(.iastore, 0, 0), (.iinc 2 1, 0, 0)] (by decide +kernel) trivial ⟨o1, ?_⟩
    show Ev (d + 1) M_Shape_markParts 0 0 52 [(2, v0), (2, v1), (0, iw (v2 + 1)), zJ] [] kd (zup (zup m s0 s1 s2) ((zup m s0 s1 s2) v0 0) (iw (5 + v2)) (iw (5 + v2))) (zqV kd q)
    refine EvX.goto (off := (-50)) (tgt := 2) (by decide +kernel) (by decide) ?_
    exact h
set_option maxRecDepth 20000 in
set_option maxHeartbeats 1000000 in
theorem T_Shape_markParts_57 {d : Nat} {kd : ZK} {m : ZM} {q : ZM → Prop} {v0 v1 v2 : Int} (h : (zobj kd v1 1 ∧ (((m v1 0) ≤ v2 → q m) ∧ (¬ (m v1 0) ≤ v2 → (Ev (d + 1) M_Shape_markParts 0 0 67 [(2, v0), (2, v1), (0, v2), (0, 0)] [] kd m (zqV kd q)))))) : Ev (d + 1) M_Shape_markParts 0 0 57 [(2, v0), (2, v1), (0, v2), zJ] [] kd m (zqV kd q) := by
  obtain ⟨o1, h⟩ := h
  refine EvX.blk (pc' := 62) [(.iload_n 2, 0, 0), (.aload_n 1, 0, 0), (.getfield 31, 1, 0)] (by decide +kernel) ⟨g_Shape_31, trivial⟩ ⟨o1, ?_⟩
  show Ev (d + 1) M_Shape_markParts 0 0 62 [(2, v0), (2, v1), (0, v2), zJ] [(0, m v1 0), (0, v2)] kd m (zqV kd q)
  refine EvX.icmp_ge (off := 57) (tgt := 119) (by decide +kernel) (by decide) (fun hc => ?_) (fun hc => ?_)
  · have h := h.1 hc
    exact EvX.ret (r := zJ) (by decide +kernel) rfl ⟨rfl, rfl, h⟩
  · have h := h.2 hc
    refine EvX.blk (pc' := 67) [(.iconst 0, 0, 0), (.istore_n 3, 0, 0)] (by decide +kernel) trivial ?_
    show Ev (d + 1) M_Shape_markParts 0 0 67 [(2, v0), (2, v1), (0, v2), (0, 0)] [] kd m (zqV kd q)
    exact h
set_option maxRecDepth 20000 in
set_option maxHeartbeats 1000000 in
theorem T_Shape_markParts_67 {d : Nat} {kd : ZK} {m : ZM} {q : ZM → Prop} {v0 v1 v2 v3 : Int} (h : (zobj kd v1 1 ∧ (((m v1 1) ≤ v3 → (Ev (d + 1) M_Shape_markParts 0 0 57 [(2, v0), (2, v1), (0, iw (v2 + 1)), zJ] [] kd m (zqV kd q))) ∧ (¬ (m v1 1) ≤ v3 → (zobj kd v1 1 ∧ (∃ q1, CtI d M_Ap_cellOf [(0, 0), (0, v2), (0, v3)] kd m q1 ∧ ∀ x2 m3, q1 x2 m3 → (zIn kd (m v1 4) 0 x2 ∧ (((m3 (m v1 4) x2) ≤ 0 → (Ev (d + 1) M_Shape_markParts 0 0 67 [(2, v0), (2, v1), (0, v2), (0, iw (v3 + 1))] [] kd m3 (zqV kd q))) ∧ (¬ (m3 (m v1 4) x2) ≤ 0 → (zobj kd v0 4 ∧ zIn kd (m3 v0 0) 0 v2 ∧ zobj kd v0 4 ∧ zIn kd (m3 v0 0) 0 (iw (5 + v3)) ∧ (zobj kd v0 4 ∧ ∃ q4, CtV d M_Shape_joinParts [(2, v0), (0, m3 (m3 v0 0) v2), (0, m3 (m3 v0 0) (iw (5 + v3)))] kd m3 q4 ∧ ∀ m6, q4 m6 → (Ev (d + 1) M_Shape_markParts 0 0 67 [(2, v0), (2, v1), (0, v2), (0, iw (v3 + 1))] [] kd m6 (zqV kd q))))))))))))) : Ev (d + 1) M_Shape_markParts 0 0 67 [(2, v0), (2, v1), (0, v2), (0, v3)] [] kd m (zqV kd q) := by
  obtain ⟨o1, h⟩ := h
  refine EvX.blk (pc' := 72) [(.iload_n 3, 0, 0), (.aload_n 1, 0, 0), (.getfield 37, 1, 1)] (by decide +kernel) ⟨g_Shape_37, trivial⟩ ⟨o1, ?_⟩
  show Ev (d + 1) M_Shape_markParts 0 0 72 [(2, v0), (2, v1), (0, v2), (0, v3)] [(0, m v1 1), (0, v3)] kd m (zqV kd q)
  refine EvX.icmp_ge (off := 41) (tgt := 113) (by decide +kernel) (by decide) (fun hc => ?_) (fun hc => ?_)
  · have h := h.1 hc
    refine EvX.blk (pc' := 116) [(.iinc 2 1, 0, 0)] (by decide +kernel) trivial ?_
    show Ev (d + 1) M_Shape_markParts 0 0 116 [(2, v0), (2, v1), (0, iw (v2 + 1)), (0, v3)] [] kd m (zqV kd q)
    refine EvX.goto (off := (-59)) (tgt := 57) (by decide +kernel) (by decide) ?_
    exact EvX.weak (ls2 := [(2, v0), (2, v1), (0, iw (v2 + 1)), zJ]) (zwk_of ⟨Or.inr rfl, Or.inr rfl, Or.inr rfl, Or.inl rfl, trivial⟩) h
  · have h := h.2 hc
    obtain ⟨o1, h⟩ := h
    refine EvX.blk (pc' := 82) [(.aload_n 1, 0, 0), (.getfield 40, 1, 4), (.iconst 0, 0, 0), (.iload_n 2, 0, 0), (.iload_n 3, 0, 0)] (by decide +kernel) ⟨g_Shape_40, trivial⟩ ⟨o1, ?_⟩
    show Ev (d + 1) M_Shape_markParts 0 0 82 [(2, v0), (2, v1), (0, v2), (0, v3)] [(0, v3), (0, v2), (0, 0), (2, m v1 4)] kd m (zqV kd q)
    obtain ⟨q1, hq, h⟩ := h
    refine EvX.callS (mc := 0) (ms := 0) (as := [(0, 0), (0, v2), (0, v3)]) (st := [(2, m v1 4)]) (by decide +kernel) l_Shape_43 k_Ap_cellOf s_Ap_cellOf a_Ap_cellOf (by decide) (Nat.le_of_ble_eq_true rfl) hq (fun r kd1 m3 hr => ?_)
    obtain ⟨x2, rfl, hk, hr⟩ := hr
    subst kd1
    have h := h x2 m3 hr
    show Ev (d + 1) M_Shape_markParts 0 0 85 [(2, v0), (2, v1), (0, v2), (0, v3)] [(0, x2), (2, m v1 4)] kd m3 (zqV kd q)
    obtain ⟨o1, h⟩ := h
    refine EvX.blk (pc' := 86) [(.iaload, 0, 0)] (by decide +kernel) trivial ⟨o1, ?_⟩
    show Ev (d + 1) M_Shape_markParts 0 0 86 [(2, v0), (2, v1), (0, v2), (0, v3)] [(0, m3 (m v1 4) x2)] kd m3 (zqV kd q)
    refine EvX.if_le (off := 21) (tgt := 107) (by decide +kernel) (by decide) (fun hc => ?_) (fun hc => ?_)
    · have h := h.1 hc
      refine EvX.blk (pc' := 110) [(.iinc 3 1, 0, 0)] (by decide +kernel) trivial ?_
      show Ev (d + 1) M_Shape_markParts 0 0 110 [(2, v0), (2, v1), (0, v2), (0, iw (v3 + 1))] [] kd m3 (zqV kd q)
      refine EvX.goto (off := (-43)) (tgt := 67) (by decide +kernel) (by decide) ?_
      exact h
    · have h := h.2 hc
      obtain ⟨o1, o2, o3, o4, h⟩ := h
      refine EvX.blk (pc' := 104) [(.aload_n 0, 0, 0), (.aload_n 0, 0, 0), (.getfield 9, 4, 0), (.iload_n 2, 0, 0), (.iaload, 0, 0), (.aload_n 0, 0, 0), (.getfield 9, 4, 0), (.iconst 5, 0, 0), (.iload_n 3, 0, 0), (.iadd, 0, 0), (.iaload, 0, 0)] (by decide +kernel) ⟨g_Shape_9, g_Shape_9, trivial⟩ ⟨o1, o2, o3, o4, ?_⟩
      show Ev (d + 1) M_Shape_markParts 0 0 104 [(2, v0), (2, v1), (0, v2), (0, v3)] [(0, m3 (m3 v0 0) (iw (5 + v3))), (0, m3 (m3 v0 0) v2), (2, v0)] kd m3 (zqV kd q)
      obtain ⟨ov, h⟩ := h
      obtain ⟨q4, hq, h⟩ := h
      refine EvX.callV (c := 4) (mc := 0) (ms := 0) (as := [(0, m3 (m3 v0 0) v2), (0, m3 (m3 v0 0) (iw (5 + v3)))]) (st := []) (by decide +kernel) l_Shape_47 k_Shape_joinParts v_Shape_joinParts a_Shape_joinParts (by decide) (Nat.le_of_ble_eq_true rfl) rfl ov hq (fun r kd1 m6 hr => ?_)
      obtain ⟨rfl, hk, hr⟩ := hr
      subst kd1
      have h := h m6 hr
      show Ev (d + 1) M_Shape_markParts 0 0 107 [(2, v0), (2, v1), (0, v2), (0, v3)] [] kd m6 (zqV kd q)
      refine EvX.blk (pc' := 110) [(.iinc 3 1, 0, 0)] (by decide +kernel) trivial ?_
      show Ev (d + 1) M_Shape_markParts 0 0 110 [(2, v0), (2, v1), (0, v2), (0, iw (v3 + 1))] [] kd m6 (zqV kd q)
      refine EvX.goto (off := (-43)) (tgt := 67) (by decide +kernel) (by decide) ?_
      exact h
set_option maxRecDepth 20000 in
set_option maxHeartbeats 1000000 in
theorem T_Shape_joinParts_0 {d : Nat} {kd : ZK} {m : ZM} {q : ZM → Prop} {v0 v1 v2 : Int} (h : (Ev (d + 1) M_Shape_joinParts 0 0 9 [(2, v0), (0, v1), (0, v2), (0, zmin v1 v2), (0, 0)] [] kd m (zqV kd q))) : Ev (d + 1) M_Shape_joinParts 0 0 0 [(2, v0), (0, v1), (0, v2), zJ, zJ] [] kd m (zqV kd q) := by
  refine EvX.blk (pc' := 2) [(.iload_n 1, 0, 0), (.iload_n 2, 0, 0)] (by decide +kernel) trivial ?_
  show Ev (d + 1) M_Shape_joinParts 0 0 2 [(2, v0), (0, v1), (0, v2), zJ, zJ] [(0, v2), (0, v1)] kd m (zqV kd q)
  refine EvX.mmin' (by decide +kernel) y_Shape_51 (Nat.le_of_ble_eq_true rfl) ?_
  show Ev (d + 1) M_Shape_joinParts 0 0 5 [(2, v0), (0, v1), (0, v2), zJ, zJ] [(0, zmin v1 v2)] kd m (zqV kd q)
  refine EvX.blk (pc' := 9) [(.istore_n 3, 0, 0), (.iconst 0, 0, 0), (.istore 4, 0, 0)] (by decide +kernel) trivial ?_
  show Ev (d + 1) M_Shape_joinParts 0 0 9 [(2, v0), (0, v1), (0, v2), (0, zmin v1 v2), (0, 0)] [] kd m (zqV kd q)
  exact h
theorem S_Shape_joinParts {d : Nat} {kd : ZK} {m : ZM} {q : ZM → Prop} {v0 v1 v2 : Int} (h : (Ev (d + 1) M_Shape_joinParts 0 0 9 [(2, v0), (0, v1), (0, v2), (0, zmin v1 v2), (0, 0)] [] kd m (zqV kd q))) : CtV (d + 1) M_Shape_joinParts [(2, v0), (0, v1), (0, v2)] kd m q :=
  Ct.start k_Shape_joinParts (Nat.le_of_ble_eq_true rfl) ⟨0, Or.inl ⟨rfl, rfl⟩⟩ (T_Shape_joinParts_0 h)
set_option maxRecDepth 20000 in
set_option maxHeartbeats 1000000 in
theorem T_Shape_joinParts_9 {d : Nat} {kd : ZK} {m : ZM} {q : ZM → Prop} {v0 v1 v2 v3 v4 : Int} (h : (zobj kd v0 4 ∧ zarr kd (m v0 0) 0 10 ∧ ((10 ≤ v4 → q m) ∧ (¬ 10 ≤ v4 → (zobj kd v0 4 ∧ zIn kd (m v0 0) 0 v4 ∧ (((m (m v0 0) v4) = v1 → (zobj kd v0 4 ∧ zIn kd (m v0 0) 0 v4 ∧ (Ev (d + 1) M_Shape_joinParts 0 0 9 [(2, v0), (0, v1), (0, v2), (0, v3), (0, iw (v4 + 1))] [] kd (zup m (m v0 0) v4 v3) (zqV kd q)))) ∧ (¬ (m (m v0 0) v4) = v1 → (zobj kd v0 4 ∧ zIn kd (m v0 0) 0 v4 ∧ (((m (m v0 0) v4) ≠ v2 → (Ev (d + 1) M_Shape_joinParts 0 0 9 [(2, v0), (0, v1), (0, v2), (0, v3), (0, iw (v4 + 1))] [] kd m (zqV kd q))) ∧ (¬ (m (m v0 0) v4) ≠ v2 → (zobj kd v0 4 ∧ zIn kd (m v0 0) 0 v4 ∧ (Ev (d + 1) M_Shape_joinParts 0 0 9 [(2, v0), (0, v1), (0, v2), (0, v3), (0, iw (v4 + 1))] [] kd (zup m (m v0 0) v4 v3) (zqV kd q))))))))))))) : Ev (d + 1) M_Shape_joinParts 0 0 9 [(2, v0), (0, v1), (0, v2), (0, v3), (0, v4)] [] kd m (zqV kd q) := by
  obtain ⟨o1, o2, h⟩ := h
  refine EvX.blk (pc' := 16) [(.iload 4, 0, 0), (.aload_n 0, 0, 0), (.getfield 9, 4, 0), (.arraylength, 0, 10)] (by decide +kernel) ⟨g_Shape_9, trivial⟩ ⟨o1, ⟨by decide, by decide, by decide⟩, o2, ?_⟩
  show Ev (d + 1) M_Shape_joinParts 0 0 16 [(2, v0), (0, v1), (0, v2), (0, v3), (0, v4)] [(0, 10), (0, v4)] kd m (zqV kd q)
  refine EvX.icmp_ge (off := 39) (tgt := 55) (by decide +kernel) (by decide) (fun hc => ?_) (fun hc => ?_)
  · have h := h.1 hc
    exact EvX.ret (r := zJ) (by decide +kernel) rfl ⟨rfl, rfl, h⟩
  · have h := h.2 hc
    obtain ⟨o1, o2, h⟩ := h
    refine EvX.blk (pc' := 27) [(.aload_n 0, 0, 0), (.getfield 9, 4, 0), (.iload 4, 0, 0), (.iaload, 0, 0), (.iload_n 1, 0, 0)] (by decide +kernel) ⟨g_Shape_9, trivial⟩ ⟨o1, o2, ?_⟩
    show Ev (d + 1) M_Shape_joinParts 0 0 27 [(2, v0), (0, v1), (0, v2), (0, v3), (0, v4)] [(0, v1), (0, m (m v0 0) v4)] kd m (zqV kd q)
    refine EvX.icmp_eq (off := 14) (tgt := 41) (by decide +kernel) (by decide) (fun hc => ?_) (fun hc => ?_)
    · have h := h.1 hc
      obtain ⟨o1, o2, h⟩ := h
      refine EvX.blk (pc' := 52) [(.aload_n 0, 0, 0), (.getfield 9, 4, 0), (.iload 4, 0, 0), (.iload_n 3, 0, 0), (.iastore, 0, 0), (.iinc 4 1, 0, 0)] (by decide +kernel) ⟨g_Shape_9, trivial⟩ ⟨o1, o2, ?_⟩
      show Ev (d + 1) M_Shape_joinParts 0 0 52 [(2, v0), (0, v1), (0, v2), (0, v3), (0, iw (v4 + 1))] [] kd (zup m (m v0 0) v4 v3) (zqV kd q)
      refine EvX.goto (off := (-43)) (tgt := 9) (by decide +kernel) (by decide) ?_
      exact h
    · have h := h.2 hc
      obtain ⟨o1, o2, h⟩ := h
      refine EvX.blk (pc' := 38) [(.aload_n 0, 0, 0), (.getfield 9, 4, 0), (.iload 4, 0, 0), (.iaload, 0, 0), (.iload_n 2, 0, 0)] (by decide +kernel) ⟨g_Shape_9, trivial⟩ ⟨o1, o2, ?_⟩
      show Ev (d + 1) M_Shape_joinParts 0 0 38 [(2, v0), (0, v1), (0, v2), (0, v3), (0, v4)] [(0, v2), (0, m (m v0 0) v4)] kd m (zqV kd q)
      refine EvX.icmp_ne (off := 11) (tgt := 49) (by decide +kernel) (by decide) (fun hc => ?_) (fun hc => ?_)
      · have h := h.1 hc
        refine EvX.blk (pc' := 52) [(.iinc 4 1, 0, 0)] (by decide +kernel) trivial ?_
        show Ev (d + 1) M_Shape_joinParts 0 0 52 [(2, v0), (0, v1), (0, v2), (0, v3), (0, iw (v4 + 1))] [] kd m (zqV kd q)
        refine EvX.goto (off := (-43)) (tgt := 9) (by decide +kernel) (by decide) ?_
        exact h
      · have h := h.2 hc
        obtain ⟨o1, o2, h⟩ := h
        refine EvX.blk (pc' := 52) [(.aload_n 0, 0, 0), (.getfield 9, 4, 0), (.iload 4, 0, 0), (.iload_n 3, 0, 0), (.iastore, 0, 0), (.iinc 4 1, 0, 0)] (by decide +kernel) ⟨g_Shape_9, trivial⟩ ⟨o1, o2, ?_⟩
        show Ev (d + 1) M_Shape_joinParts 0 0 52 [(2, v0), (0, v1), (0, v2), (0, v3), (0, iw (v4 + 1))] [] kd (zup m (m v0 0) v4 v3) (zqV kd q)
        refine EvX.goto (off := (-43)) (tgt := 9) (by decide +kernel) (by decide) ?_
        exact h
set_option maxRecDepth 20000 in
set_option maxHeartbeats 1000000 in
theorem T_Shape_ordersOf_0 {d : Nat} {kd : ZK} {m : ZM} {q : Int → ZM → Prop} {v0 v1 : Int} (h : (zobj kd v0 4 ∧ ∃ q1, CtV d M_Shape_noteLooks [(2, v0), (2, v1)] kd m q1 ∧ ∀ m3, q1 m3 → (Ev (d + 1) M_Shape_ordersOf 0 0 9 [(2, v0), (2, v1), (0, 1), (0, 2), zJ] [] kd m3 (zqI kd q)))) : Ev (d + 1) M_Shape_ordersOf 0 0 0 [(2, v0), (2, v1), zJ, zJ, zJ] [] kd m (zqI kd q) := by
  refine EvX.blk (pc' := 2) [(.aload_n 0, 0, 0), (.aload_n 1, 0, 0)] (by decide +kernel) trivial ?_
  show Ev (d + 1) M_Shape_ordersOf 0 0 2 [(2, v0), (2, v1), zJ, zJ, zJ] [(2, v1), (2, v0)] kd m (zqI kd q)
  obtain ⟨ov, h⟩ := h
  obtain ⟨q1, hq, h⟩ := h
  refine EvX.callV (c := 4) (mc := 0) (ms := 0) (as := [(2, v1)]) (st := []) (by decide +kernel) l_Shape_54 k_Shape_noteLooks v_Shape_noteLooks a_Shape_noteLooks (by decide) (Nat.le_of_ble_eq_true rfl) rfl ov hq (fun r kd1 m3 hr => ?_)
  obtain ⟨rfl, hk, hr⟩ := hr
  subst kd1
  have h := h m3 hr
  show Ev (d + 1) M_Shape_ordersOf 0 0 5 [(2, v0), (2, v1), zJ, zJ, zJ] [] kd m3 (zqI kd q)
  refine EvX.blk (pc' := 9) [(.iconst 1, 0, 0), (.istore_n 2, 0, 0), (.iconst 2, 0, 0), (.istore_n 3, 0, 0)] (by decide +kernel) trivial ?_
  show Ev (d + 1) M_Shape_ordersOf 0 0 9 [(2, v0), (2, v1), (0, 1), (0, 2), zJ] [] kd m3 (zqI kd q)
  exact h
theorem S_Shape_ordersOf {d : Nat} {kd : ZK} {m : ZM} {q : Int → ZM → Prop} {v0 v1 : Int} (h : (zobj kd v0 4 ∧ ∃ q1, CtV d M_Shape_noteLooks [(2, v0), (2, v1)] kd m q1 ∧ ∀ m3, q1 m3 → (Ev (d + 1) M_Shape_ordersOf 0 0 9 [(2, v0), (2, v1), (0, 1), (0, 2), zJ] [] kd m3 (zqI kd q)))) : CtI (d + 1) M_Shape_ordersOf [(2, v0), (2, v1)] kd m q :=
  Ct.start k_Shape_ordersOf (Nat.le_of_ble_eq_true rfl) ⟨1, Or.inr (Or.inl ⟨rfl, rfl⟩)⟩ (T_Shape_ordersOf_0 h)
set_option maxRecDepth 20000 in
set_option maxHeartbeats 1000000 in
theorem T_Shape_ordersOf_9 {d : Nat} {kd : ZK} {m : ZM} {q : Int → ZM → Prop} {v0 v1 v2 v3 : Int} (h : (zobj kd v1 1 ∧ (((m v1 0) < v3 → (Ev (d + 1) M_Shape_ordersOf 0 0 32 [(2, v0), (2, v1), (0, v2), (0, 0), (0, 0)] [] kd m (zqI kd q))) ∧ (¬ (m v1 0) < v3 → (Ev (d + 1) M_Shape_ordersOf 0 0 9 [(2, v0), (2, v1), (0, iw (v2 * v3)), (0, iw (v3 + 1)), zJ] [] kd m (zqI kd q)))))) : Ev (d + 1) M_Shape_ordersOf 0 0 9 [(2, v0), (2, v1), (0, v2), (0, v3), zJ] [] kd m (zqI kd q) := by
  obtain ⟨o1, h⟩ := h
  refine EvX.blk (pc' := 14) [(.iload_n 3, 0, 0), (.aload_n 1, 0, 0), (.getfield 31, 1, 0)] (by decide +kernel) ⟨g_Shape_31, trivial⟩ ⟨o1, ?_⟩
  show Ev (d + 1) M_Shape_ordersOf 0 0 14 [(2, v0), (2, v1), (0, v2), (0, v3), zJ] [(0, m v1 0), (0, v3)] kd m (zqI kd q)
  refine EvX.icmp_gt (off := 13) (tgt := 27) (by decide +kernel) (by decide) (fun hc => ?_) (fun hc => ?_)
  · have h := h.1 hc
    refine EvX.blk (pc' := 32) [(.iconst 0, 0, 0), (.istore_n 3, 0, 0), (.iconst 0, 0, 0), (.istore 4, 0, 0)] (by decide +kernel) trivial ?_
    show Ev (d + 1) M_Shape_ordersOf 0 0 32 [(2, v0), (2, v1), (0, v2), (0, 0), (0, 0)] [] kd m (zqI kd q)
    exact h
  · have h := h.2 hc
    refine EvX.blk (pc' := 24) [(.iload_n 2, 0, 0), (.iload_n 3, 0, 0), (.imul, 0, 0), (.istore_n 2, 0, 0), (.iinc 3 1, 0, 0)] (by decide +kernel) trivial ?_
    show Ev (d + 1) M_Shape_ordersOf 0 0 24 [(2, v0), (2, v1), (0, iw (v2 * v3)), (0, iw (v3 + 1)), zJ] [] kd m (zqI kd q)
    refine EvX.goto (off := (-15)) (tgt := 9) (by decide +kernel) (by decide) ?_
    exact h
set_option maxRecDepth 20000 in
set_option maxHeartbeats 1000000 in
theorem T_Shape_ordersOf_32 {d : Nat} {kd : ZK} {m : ZM} {q : Int → ZM → Prop} {v0 v1 v2 v3 v4 : Int} (h : ((v2 ≤ v4 → q v3 m) ∧ (¬ v2 ≤ v4 → (zobj kd v1 1 ∧ (zobj kd v0 4 ∧ ∃ q1, CtV d M_Shape_setOrder [(2, v0), (0, v4), (0, m v1 0)] kd m q1 ∧ ∀ m3, q1 m3 → (zobj kd v0 4 ∧ ∃ q4, CtI d M_Shape_ordersOfBen [(2, v0), (2, v1)] kd m3 q4 ∧ ∀ x5 m6, q4 x5 m6 → (Ev (d + 1) M_Shape_ordersOf 0 0 32 [(2, v0), (2, v1), (0, v2), (0, iw (v3 + x5)), (0, iw (v4 + 1))] [] kd m6 (zqI kd q)))))))) : Ev (d + 1) M_Shape_ordersOf 0 0 32 [(2, v0), (2, v1), (0, v2), (0, v3), (0, v4)] [] kd m (zqI kd q) := by
  refine EvX.blk (pc' := 35) [(.iload 4, 0, 0), (.iload_n 2, 0, 0)] (by decide +kernel) trivial ?_
  show Ev (d + 1) M_Shape_ordersOf 0 0 35 [(2, v0), (2, v1), (0, v2), (0, v3), (0, v4)] [(0, v2), (0, v4)] kd m (zqI kd q)
  refine EvX.icmp_ge (off := 27) (tgt := 62) (by decide +kernel) (by decide) (fun hc => ?_) (fun hc => ?_)
  · have h := h.1 hc
    refine EvX.blk (pc' := 63) [(.iload_n 3, 0, 0)] (by decide +kernel) trivial ?_
    show Ev (d + 1) M_Shape_ordersOf 0 0 63 [(2, v0), (2, v1), (0, v2), (0, v3), (0, v4)] [(0, v3)] kd m (zqI kd q)
    exact EvX.ret (r := (0, v3)) (by decide +kernel) rfl ⟨_, rfl, rfl, h⟩
  · have h := h.2 hc
    obtain ⟨o1, h⟩ := h
    refine EvX.blk (pc' := 45) [(.aload_n 0, 0, 0), (.iload 4, 0, 0), (.aload_n 1, 0, 0), (.getfield 31, 1, 0)] (by decide +kernel) ⟨g_Shape_31, trivial⟩ ⟨o1, ?_⟩
    show Ev (d + 1) M_Shape_ordersOf 0 0 45 [(2, v0), (2, v1), (0, v2), (0, v3), (0, v4)] [(0, m v1 0), (0, v4), (2, v0)] kd m (zqI kd q)
    obtain ⟨ov, h⟩ := h
    obtain ⟨q1, hq, h⟩ := h
    refine EvX.callV (c := 4) (mc := 0) (ms := 0) (as := [(0, v4), (0, m v1 0)]) (st := []) (by decide +kernel) l_Shape_57 k_Shape_setOrder v_Shape_setOrder a_Shape_setOrder (by decide) (Nat.le_of_ble_eq_true rfl) rfl ov hq (fun r kd1 m3 hr => ?_)
    obtain ⟨rfl, hk, hr⟩ := hr
    subst kd1
    have h := h m3 hr
    show Ev (d + 1) M_Shape_ordersOf 0 0 48 [(2, v0), (2, v1), (0, v2), (0, v3), (0, v4)] [] kd m3 (zqI kd q)
    refine EvX.blk (pc' := 51) [(.iload_n 3, 0, 0), (.aload_n 0, 0, 0), (.aload_n 1, 0, 0)] (by decide +kernel) trivial ?_
    show Ev (d + 1) M_Shape_ordersOf 0 0 51 [(2, v0), (2, v1), (0, v2), (0, v3), (0, v4)] [(2, v1), (2, v0), (0, v3)] kd m3 (zqI kd q)
    obtain ⟨ov, h⟩ := h
    obtain ⟨q4, hq, h⟩ := h
    refine EvX.callV (c := 4) (mc := 0) (ms := 0) (as := [(2, v1)]) (st := [(0, v3)]) (by decide +kernel) l_Shape_60 k_Shape_ordersOfBen v_Shape_ordersOfBen a_Shape_ordersOfBen (by decide) (Nat.le_of_ble_eq_true rfl) rfl ov hq (fun r kd1 m6 hr => ?_)
    obtain ⟨x5, rfl, hk, hr⟩ := hr
    subst kd1
    have h := h x5 m6 hr
    show Ev (d + 1) M_Shape_ordersOf 0 0 54 [(2, v0), (2, v1), (0, v2), (0, v3), (0, v4)] [(0, x5), (0, v3)] kd m6 (zqI kd q)
    refine EvX.blk (pc' := 59) [(.iadd, 0, 0), (.istore_n 3, 0, 0), (.iinc 4 1, 0, 0)] (by decide +kernel) trivial ?_
    show Ev (d + 1) M_Shape_ordersOf 0 0 59 [(2, v0), (2, v1), (0, v2), (0, iw (v3 + x5)), (0, iw (v4 + 1))] [] kd m6 (zqI kd q)
    refine EvX.goto (off := (-27)) (tgt := 32) (by decide +kernel) (by decide) ?_
    exact h
set_option maxRecDepth 20000 in
set_option maxHeartbeats 1000000 in
theorem T_Shape_noteLooks_0 {d : Nat} {kd : ZK} {m : ZM} {q : ZM → Prop} {v0 v1 : Int} (h : (Ev (d + 1) M_Shape_noteLooks 0 0 2 [(2, v0), (2, v1), (0, 0), zJ, zJ, zJ, zJ] [] kd m (zqV kd q))) : Ev (d + 1) M_Shape_noteLooks 0 0 0 [(2, v0), (2, v1), zJ, zJ, zJ, zJ, zJ] [] kd m (zqV kd q) := by
  refine EvX.blk (pc' := 2) [(.iconst 0, 0, 0), (.istore_n 2, 0, 0)] (by decide +kernel) trivial ?_
  show Ev (d + 1) M_Shape_noteLooks 0 0 2 [(2, v0), (2, v1), (0, 0), zJ, zJ, zJ, zJ] [] kd m (zqV kd q)
  exact h
theorem S_Shape_noteLooks {d : Nat} {kd : ZK} {m : ZM} {q : ZM → Prop} {v0 v1 : Int} (h : (Ev (d + 1) M_Shape_noteLooks 0 0 2 [(2, v0), (2, v1), (0, 0), zJ, zJ, zJ, zJ] [] kd m (zqV kd q))) : CtV (d + 1) M_Shape_noteLooks [(2, v0), (2, v1)] kd m q :=
  Ct.start k_Shape_noteLooks (Nat.le_of_ble_eq_true rfl) ⟨0, Or.inl ⟨rfl, rfl⟩⟩ (T_Shape_noteLooks_0 h)
set_option maxRecDepth 20000 in
set_option maxHeartbeats 1000000 in
theorem T_Shape_noteLooks_2 {d : Nat} {kd : ZK} {m : ZM} {q : ZM → Prop} {v0 v1 v2 : Int} (h : (zobj kd v1 1 ∧ (((m v1 0) ≤ v2 → q m) ∧ (¬ (m v1 0) ≤ v2 → (Ev (d + 1) M_Shape_noteLooks 0 0 12 [(2, v0), (2, v1), (0, v2), (0, 0), zJ, zJ, zJ] [] kd m (zqV kd q)))))) : Ev (d + 1) M_Shape_noteLooks 0 0 2 [(2, v0), (2, v1), (0, v2), zJ, zJ, zJ, zJ] [] kd m (zqV kd q) := by
  obtain ⟨o1, h⟩ := h
  refine EvX.blk (pc' := 7) [(.iload_n 2, 0, 0), (.aload_n 1, 0, 0), (.getfield 31, 1, 0)] (by decide +kernel) ⟨g_Shape_31, trivial⟩ ⟨o1, ?_⟩
  show Ev (d + 1) M_Shape_noteLooks 0 0 7 [(2, v0), (2, v1), (0, v2), zJ, zJ, zJ, zJ] [(0, m v1 0), (0, v2)] kd m (zqV kd q)
  refine EvX.icmp_ge (off := 109) (tgt := 116) (by decide +kernel) (by decide) (fun hc => ?_) (fun hc => ?_)
  · have h := h.1 hc
    exact EvX.ret (r := zJ) (by decide +kernel) rfl ⟨rfl, rfl, h⟩
  · have h := h.2 hc
    refine EvX.blk (pc' := 12) [(.iconst 0, 0, 0), (.istore_n 3, 0, 0)] (by decide +kernel) trivial ?_
    show Ev (d + 1) M_Shape_noteLooks 0 0 12 [(2, v0), (2, v1), (0, v2), (0, 0), zJ, zJ, zJ] [] kd m (zqV kd q)
    exact h
set_option maxRecDepth 20000 in
set_option maxHeartbeats 1000000 in
theorem T_Shape_noteLooks_12 {d : Nat} {kd : ZK} {m : ZM} {q : ZM → Prop} {v0 v1 v2 v3 : Int} (h : (zobj kd v1 1 ∧ (((m v1 1) ≤ v3 → (Ev (d + 1) M_Shape_noteLooks 0 0 2 [(2, v0), (2, v1), (0, iw (v2 + 1)), zJ, zJ, zJ, zJ] [] kd m (zqV kd q))) ∧ (¬ (m v1 1) ≤ v3 → (zobj kd v1 1 ∧ (∃ q1, CtI d M_Ap_cellOf [(0, 0), (0, v2), (0, v3)] kd m q1 ∧ ∀ x2 m3, q1 x2 m3 → (zIn kd (m v1 4) 0 x2 ∧ (Ev (d + 1) M_Shape_noteLooks 0 0 36 [(2, v0), (2, v1), (0, v2), (0, v3), (0, m3 (m v1 4) x2), (0, 0), zJ] [] kd m3 (zqV kd q))))))))) : Ev (d + 1) M_Shape_noteLooks 0 0 12 [(2, v0), (2, v1), (0, v2), (0, v3), zJ, zJ, zJ] [] kd m (zqV kd q) := by
  obtain ⟨o1, h⟩ := h
  refine EvX.blk (pc' := 17) [(.iload_n 3, 0, 0), (.aload_n 1, 0, 0), (.getfield 37, 1, 1)] (by decide +kernel) ⟨g_Shape_37, trivial⟩ ⟨o1, ?_⟩
  show Ev (d + 1) M_Shape_noteLooks 0 0 17 [(2, v0), (2, v1), (0, v2), (0, v3), zJ, zJ, zJ] [(0, m v1 1), (0, v3)] kd m (zqV kd q)
  refine EvX.icmp_ge (off := 93) (tgt := 110) (by decide +kernel) (by decide) (fun hc => ?_) (fun hc => ?_)
  · have h := h.1 hc
    refine EvX.blk (pc' := 113) [(.iinc 2 1, 0, 0)] (by decide +kernel) trivial ?_
    show Ev (d + 1) M_Shape_noteLooks 0 0 113 [(2, v0), (2, v1), (0, iw (v2 + 1)), (0, v3), zJ, zJ, zJ] [] kd m (zqV kd q)
    refine EvX.goto (off := (-111)) (tgt := 2) (by decide +kernel) (by decide) ?_
    exact EvX.weak (ls2 := [(2, v0), (2, v1), (0, iw (v2 + 1)), zJ, zJ, zJ, zJ]) (zwk_of ⟨Or.inr rfl, Or.inr rfl, Or.inr rfl, Or.inl rfl, Or.inl rfl, Or.inl rfl, Or.inl rfl, trivial⟩) h
  · have h := h.2 hc
    obtain ⟨o1, h⟩ := h
    refine EvX.blk (pc' := 27) [(.aload_n 1, 0, 0), (.getfield 40, 1, 4), (.iconst 0, 0, 0), (.iload_n 2, 0, 0), (.iload_n 3, 0, 0)] (by decide +kernel) ⟨g_Shape_40, trivial⟩ ⟨o1, ?_⟩
    show Ev (d + 1) M_Shape_noteLooks 0 0 27 [(2, v0), (2, v1), (0, v2), (0, v3), zJ, zJ, zJ] [(0, v3), (0, v2), (0, 0), (2, m v1 4)] kd m (zqV kd q)
    obtain ⟨q1, hq, h⟩ := h
    refine EvX.callS (mc := 0) (ms := 0) (as := [(0, 0), (0, v2), (0, v3)]) (st := [(2, m v1 4)]) (by decide +kernel) l_Shape_43 k_Ap_cellOf s_Ap_cellOf a_Ap_cellOf (by decide) (Nat.le_of_ble_eq_true rfl) hq (fun r kd1 m3 hr => ?_)
    obtain ⟨x2, rfl, hk, hr⟩ := hr
    subst kd1
    have h := h x2 m3 hr
    show Ev (d + 1) M_Shape_noteLooks 0 0 30 [(2, v0), (2, v1), (0, v2), (0, v3), zJ, zJ, zJ] [(0, x2), (2, m v1 4)] kd m3 (zqV kd q)
    obtain ⟨o1, h⟩ := h
    refine EvX.blk (pc' := 36) [(.iaload, 0, 0), (.istore 4, 0, 0), (.iconst 0, 0, 0), (.istore 5, 0, 0)] (by decide +kernel) trivial ⟨o1, ?_⟩
    show Ev (d + 1) M_Shape_noteLooks 0 0 36 [(2, v0), (2, v1), (0, v2), (0, v3), (0, m3 (m v1 4) x2), (0, 0), zJ] [] kd m3 (zqV kd q)
    exact h
set_option maxRecDepth 20000 in
set_option maxHeartbeats 1000000 in
theorem T_Shape_noteLooks_36 {d : Nat} {kd : ZK} {m : ZM} {q : ZM → Prop} {v0 v1 v2 v3 v4 v5 : Int} (h : (zobj kd v1 1 ∧ (((m v1 2) ≤ v5 → (zobj kd v0 4 ∧ (∃ q1, CtI d M_Ap_cellOf [(0, 0), (0, v2), (0, v3)] kd m q1 ∧ ∀ x2 m3, q1 x2 m3 → (zIn kd (m v0 1) 0 x2 ∧ (Ev (d + 1) M_Shape_noteLooks 0 0 12 [(2, v0), (2, v1), (0, v2), (0, iw (v3 + 1)), zJ, zJ, zJ] [] kd (zup m3 (m v0 1) x2 v4) (zqV kd q)))))) ∧ (¬ (m v1 2) ≤ v5 → (Ev (d + 1) M_Shape_noteLooks 0 0 48 [(2, v0), (2, v1), (0, v2), (0, v3), (0, v4), (0, v5), (0, 0)] [] kd m (zqV kd q)))))) : Ev (d + 1) M_Shape_noteLooks 0 0 36 [(2, v0), (2, v1), (0, v2), (0, v3), (0, v4), (0, v5), zJ] [] kd m (zqV kd q) := by
  obtain ⟨o1, h⟩ := h
  refine EvX.blk (pc' := 42) [(.iload 5, 0, 0), (.aload_n 1, 0, 0), (.getfield 64, 1, 2)] (by decide +kernel) ⟨g_Shape_64, trivial⟩ ⟨o1, ?_⟩
  show Ev (d + 1) M_Shape_noteLooks 0 0 42 [(2, v0), (2, v1), (0, v2), (0, v3), (0, v4), (0, v5), zJ] [(0, m v1 2), (0, v5)] kd m (zqV kd q)
  refine EvX.icmp_ge (off := 49) (tgt := 91) (by decide +kernel) (by decide) (fun hc => ?_) (fun hc => ?_)
  · have h := h.1 hc
    obtain ⟨o1, h⟩ := h
    refine EvX.blk (pc' := 98) [(.aload_n 0, 0, 0), (.getfield 15, 4, 1), (.iconst 0, 0, 0), (.iload_n 2, 0, 0), (.iload_n 3, 0, 0)] (by decide +kernel) ⟨g_Shape_15, trivial⟩ ⟨o1, ?_⟩
    show Ev (d + 1) M_Shape_noteLooks 0 0 98 [(2, v0), (2, v1), (0, v2), (0, v3), (0, v4), (0, v5), zJ] [(0, v3), (0, v2), (0, 0), (2, m v0 1)] kd m (zqV kd q)
    obtain ⟨q1, hq, h⟩ := h
    refine EvX.callS (mc := 0) (ms := 0) (as := [(0, 0), (0, v2), (0, v3)]) (st := [(2, m v0 1)]) (by decide +kernel) l_Shape_43 k_Ap_cellOf s_Ap_cellOf a_Ap_cellOf (by decide) (Nat.le_of_ble_eq_true rfl) hq (fun r kd1 m3 hr => ?_)
    obtain ⟨x2, rfl, hk, hr⟩ := hr
    subst kd1
    have h := h x2 m3 hr
    show Ev (d + 1) M_Shape_noteLooks 0 0 101 [(2, v0), (2, v1), (0, v2), (0, v3), (0, v4), (0, v5), zJ] [(0, x2), (2, m v0 1)] kd m3 (zqV kd q)
    obtain ⟨o1, h⟩ := h
    refine EvX.blk (pc' := 107) [(.iload 4, 0, 0), (.iastore, 0, 0), (.iinc 3 1, 0, 0)] (by decide +kernel) trivial ⟨o1, ?_⟩
    show Ev (d + 1) M_Shape_noteLooks 0 0 107 [(2, v0), (2, v1), (0, v2), (0, iw (v3 + 1)), (0, v4), (0, v5), zJ] [] kd (zup m3 (m v0 1) x2 v4) (zqV kd q)
    refine EvX.goto (off := (-95)) (tgt := 12) (by decide +kernel) (by decide) ?_
    exact EvX.weak (ls2 := [(2, v0), (2, v1), (0, v2), (0, iw (v3 + 1)), zJ, zJ, zJ]) (zwk_of ⟨Or.inr rfl, Or.inr rfl, Or.inr rfl, Or.inr rfl, Or.inl rfl, Or.inl rfl, Or.inl rfl, trivial⟩) h
  · have h := h.2 hc
    refine EvX.blk (pc' := 48) [(.iconst 0, 0, 0), (.istore 6, 0, 0)] (by decide +kernel) trivial ?_
    show Ev (d + 1) M_Shape_noteLooks 0 0 48 [(2, v0), (2, v1), (0, v2), (0, v3), (0, v4), (0, v5), (0, 0)] [] kd m (zqV kd q)
    exact h
set_option maxRecDepth 20000 in
set_option maxHeartbeats 1000000 in
theorem T_Shape_noteLooks_48 {d : Nat} {kd : ZK} {m : ZM} {q : ZM → Prop} {v0 v1 v2 v3 v4 v5 v6 : Int} (h : (zobj kd v1 1 ∧ (((m v1 3) ≤ v6 → (Ev (d + 1) M_Shape_noteLooks 0 0 36 [(2, v0), (2, v1), (0, v2), (0, v3), (0, v4), (0, iw (v5 + 1)), zJ] [] kd m (zqV kd q))) ∧ (¬ (m v1 3) ≤ v6 → (zobj kd v1 1 ∧ (∃ q1, CtI d M_Ap_spotOf [(0, 0), (0, v2), (0, v3), (0, v5), (0, v6)] kd m q1 ∧ ∀ x2 m3, q1 x2 m3 → (zIn kd (m v1 5) 0 x2 ∧ (Ev (d + 1) M_Shape_noteLooks 0 0 48 [(2, v0), (2, v1), (0, v2), (0, v3), (0, iw ((iw (2 * v4)) + (m3 (m v1 5) x2))), (0, v5), (0, iw (v6 + 1))] [] kd m3 (zqV kd q))))))))) : Ev (d + 1) M_Shape_noteLooks 0 0 48 [(2, v0), (2, v1), (0, v2), (0, v3), (0, v4), (0, v5), (0, v6)] [] kd m (zqV kd q) := by
  obtain ⟨o1, h⟩ := h
  refine EvX.blk (pc' := 54) [(.iload 6, 0, 0), (.aload_n 1, 0, 0), (.getfield 67, 1, 3)] (by decide +kernel) ⟨g_Shape_67, trivial⟩ ⟨o1, ?_⟩
  show Ev (d + 1) M_Shape_noteLooks 0 0 54 [(2, v0), (2, v1), (0, v2), (0, v3), (0, v4), (0, v5), (0, v6)] [(0, m v1 3), (0, v6)] kd m (zqV kd q)
  refine EvX.icmp_ge (off := 31) (tgt := 85) (by decide +kernel) (by decide) (fun hc => ?_) (fun hc => ?_)
  · have h := h.1 hc
    refine EvX.blk (pc' := 88) [(.iinc 5 1, 0, 0)] (by decide +kernel) trivial ?_
    show Ev (d + 1) M_Shape_noteLooks 0 0 88 [(2, v0), (2, v1), (0, v2), (0, v3), (0, v4), (0, iw (v5 + 1)), (0, v6)] [] kd m (zqV kd q)
    refine EvX.goto (off := (-52)) (tgt := 36) (by decide +kernel) (by decide) ?_
    exact EvX.weak (ls2 := [(2, v0), (2, v1), (0, v2), (0, v3), (0, v4), (0, iw (v5 + 1)), zJ]) (zwk_of ⟨Or.inr rfl, Or.inr rfl, Or.inr rfl, Or.inr rfl, Or.inr rfl, Or.inr rfl, Or.inl rfl, trivial⟩) h
  · have h := h.2 hc
    obtain ⟨o1, h⟩ := h
    refine EvX.blk (pc' := 72) [(.iconst 2, 0, 0), (.iload 4, 0, 0), (.imul, 0, 0), (.aload_n 1, 0, 0), (.getfield 70, 1, 5), (.iconst 0, 0, 0), (.iload_n 2, 0, 0), (.iload_n 3, 0, 0), (.iload 5, 0, 0), (.iload 6, 0, 0)] (by decide +kernel) ⟨g_Shape_70, trivial⟩ ⟨o1, ?_⟩
    show Ev (d + 1) M_Shape_noteLooks 0 0 72 [(2, v0), (2, v1), (0, v2), (0, v3), (0, v4), (0, v5), (0, v6)] [(0, v6), (0, v5), (0, v3), (0, v2), (0, 0), (2, m v1 5), (0, iw (2 * v4))] kd m (zqV kd q)
    obtain ⟨q1, hq, h⟩ := h
    refine EvX.callS (mc := 0) (ms := 0) (as := [(0, 0), (0, v2), (0, v3), (0, v5), (0, v6)]) (st := [(2, m v1 5), (0, iw (2 * v4))]) (by decide +kernel) l_Shape_73 k_Ap_spotOf s_Ap_spotOf a_Ap_spotOf (by decide) (Nat.le_of_ble_eq_true rfl) hq (fun r kd1 m3 hr => ?_)
    obtain ⟨x2, rfl, hk, hr⟩ := hr
    subst kd1
    have h := h x2 m3 hr
    show Ev (d + 1) M_Shape_noteLooks 0 0 75 [(2, v0), (2, v1), (0, v2), (0, v3), (0, v4), (0, v5), (0, v6)] [(0, x2), (2, m v1 5), (0, iw (2 * v4))] kd m3 (zqV kd q)
    obtain ⟨o1, h⟩ := h
    refine EvX.blk (pc' := 82) [(.iaload, 0, 0), (.iadd, 0, 0), (.istore 4, 0, 0), (.iinc 6 1, 0, 0)] (by decide +kernel) trivial ⟨o1, ?_⟩
    show Ev (d + 1) M_Shape_noteLooks 0 0 82 [(2, v0), (2, v1), (0, v2), (0, v3), (0, iw ((iw (2 * v4)) + (m3 (m v1 5) x2))), (0, v5), (0, iw (v6 + 1))] [] kd m3 (zqV kd q)
    refine EvX.goto (off := (-34)) (tgt := 48) (by decide +kernel) (by decide) ?_
    exact h
set_option maxRecDepth 20000 in
set_option maxHeartbeats 1000000 in
theorem T_Shape_setOrder_0 {d : Nat} {kd : ZK} {m : ZM} {q : ZM → Prop} {v0 v1 v2 : Int} (h : (Ev (d + 1) M_Shape_setOrder 0 0 8 [(2, v0), zJ, (0, v2), (0, v1), (0, 0), (0, 0), zJ] [] kd m (zqV kd q))) : Ev (d + 1) M_Shape_setOrder 0 0 0 [(2, v0), (0, v1), (0, v2), zJ, zJ, zJ, zJ] [] kd m (zqV kd q) := by
  refine EvX.blk (pc' := 8) [(.iload_n 1, 0, 0), (.istore_n 3, 0, 0), (.iconst 0, 0, 0), (.istore 4, 0, 0), (.iconst 0, 0, 0), (.istore 5, 0, 0)] (by decide +kernel) trivial ?_
  show Ev (d + 1) M_Shape_setOrder 0 0 8 [(2, v0), (0, v1), (0, v2), (0, v1), (0, 0), (0, 0), zJ] [] kd m (zqV kd q)
  exact EvX.weak (ls2 := [(2, v0), zJ, (0, v2), (0, v1), (0, 0), (0, 0), zJ]) (zwk_of ⟨Or.inr rfl, Or.inl rfl, Or.inr rfl, Or.inr rfl, Or.inr rfl, Or.inr rfl, Or.inl rfl, trivial⟩) h
theorem S_Shape_setOrder {d : Nat} {kd : ZK} {m : ZM} {q : ZM → Prop} {v0 v1 v2 : Int} (h : (Ev (d + 1) M_Shape_setOrder 0 0 8 [(2, v0), zJ, (0, v2), (0, v1), (0, 0), (0, 0), zJ] [] kd m (zqV kd q))) : CtV (d + 1) M_Shape_setOrder [(2, v0), (0, v1), (0, v2)] kd m q :=
  Ct.start k_Shape_setOrder (Nat.le_of_ble_eq_true rfl) ⟨0, Or.inl ⟨rfl, rfl⟩⟩ (T_Shape_setOrder_0 h)
set_option maxRecDepth 20000 in
set_option maxHeartbeats 1000000 in
theorem T_Shape_setOrder_8 {d : Nat} {kd : ZK} {m : ZM} {q : ZM → Prop} {v0 v2 v3 v4 v5 : Int} (h : ((v2 ≤ v5 → q m) ∧ (¬ v2 ≤ v5 → (zobj kd v0 4 ∧ (iw (v2 - v5)) ≠ 0 ∧ (∃ q1, CtI d M_Shape_freePlace [(0, v4), (0, Int.tmod v3 (iw (v2 - v5))), (0, v2)] kd m q1 ∧ ∀ x2 m3, q1 x2 m3 → (zIn kd (m v0 2) 0 v5 ∧ (iw (v2 - v5)) ≠ 0 ∧ zobj kd v0 4 ∧ zIn kd ((zup m3 (m v0 2) v5 x2) v0 2) 0 v5 ∧ (Ev (d + 1) M_Shape_setOrder 0 0 8 [(2, v0), zJ, (0, v2), (0, iw (Int.tdiv v3 (iw (v2 - v5)))), (0, zor v4 (zshl 1 ((zup m3 (m v0 2) v5 x2) ((zup m3 (m v0 2) v5 x2) v0 2) v5))), (0, iw (v5 + 1)), zJ] [] kd (zup m3 (m v0 2) v5 x2) (zqV kd q)))))))) : Ev (d + 1) M_Shape_setOrder 0 0 8 [(2, v0), zJ, (0, v2), (0, v3), (0, v4), (0, v5), zJ] [] kd m (zqV kd q) := by
  refine EvX.blk (pc' := 11) [(.iload 5, 0, 0), (.iload_n 2, 0, 0)] (by decide +kernel) trivial ?_
  show Ev (d + 1) M_Shape_setOrder 0 0 11 [(2, v0), zJ, (0, v2), (0, v3), (0, v4), (0, v5), zJ] [(0, v2), (0, v5)] kd m (zqV kd q)
  refine EvX.icmp_ge (off := 51) (tgt := 62) (by decide +kernel) (by decide) (fun hc => ?_) (fun hc => ?_)
  · have h := h.1 hc
    exact EvX.ret (r := zJ) (by decide +kernel) rfl ⟨rfl, rfl, h⟩
  · have h := h.2 hc
    obtain ⟨o1, o2, h⟩ := h
    refine EvX.blk (pc' := 33) [(.iload_n 2, 0, 0), (.iload 5, 0, 0), (.isub, 0, 0), (.istore 6, 0, 0), (.aload_n 0, 0, 0), (.getfield 18, 4, 2), (.iload 5, 0, 0), (.iload 4, 0, 0), (.iload_n 3, 0, 0), (.iload 6, 0, 0), (.irem, 0, 0), (.iload_n 2, 0, 0)] (by decide +kernel) ⟨g_Shape_18, trivial⟩ ⟨o1, o2, ?_⟩
    show Ev (d + 1) M_Shape_setOrder 0 0 33 [(2, v0), zJ, (0, v2), (0, v3), (0, v4), (0, v5), (0, iw (v2 - v5))] [(0, v2), (0, Int.tmod v3 (iw (v2 - v5))), (0, v4), (0, v5), (2, m v0 2)] kd m (zqV kd q)
    obtain ⟨q1, hq, h⟩ := h
    refine EvX.callS (mc := 0) (ms := 0) (as := [(0, v4), (0, Int.tmod v3 (iw (v2 - v5))), (0, v2)]) (st := [(0, v5), (2, m v0 2)]) (by decide +kernel) l_Shape_77 k_Shape_freePlace s_Shape_freePlace a_Shape_freePlace (by decide) (Nat.le_of_ble_eq_true rfl) hq (fun r kd1 m3 hr => ?_)
    obtain ⟨x2, rfl, hk, hr⟩ := hr
    subst kd1
    have h := h x2 m3 hr
    show Ev (d + 1) M_Shape_setOrder 0 0 36 [(2, v0), zJ, (0, v2), (0, v3), (0, v4), (0, v5), (0, iw (v2 - v5))] [(0, x2), (0, v5), (2, m v0 2)] kd m3 (zqV kd q)
    obtain ⟨o1, o2, o3, o4, h⟩ := h
    refine EvX.blk (pc' := 59) [(.iastore, 0, 0), (.iload_n 3, 0, 0), (.iload 6, 0, 0), (.idiv, 0, 0), (.istore_n 3, 0, 0), (.iload 4, 0, 0), (.iconst 1, 0, 0), (.aload_n 0, 0, 0), (.getfield 18, 4, 2), (.iload 5, 0, 0), (.iaload, 0, 0), (.ishl, 0, 0), (.ior, 0, 0), (.istore 4, 0, 0), (.iinc 5 1, 0, 0)] (by decide +kernel) ⟨g_Shape_18, trivial⟩ ⟨o1, o2, o3, o4, ?_⟩
    show Ev (d + 1) M_Shape_setOrder 0 0 59 [(2, v0), zJ, (0, v2), (0, iw (Int.tdiv v3 (iw (v2 - v5)))), (0, zor v4 (zshl 1 ((zup m3 (m v0 2) v5 x2) ((zup m3 (m v0 2) v5 x2) v0 2) v5))), (0, iw (v5 + 1)), (0, iw (v2 - v5))] [] kd (zup m3 (m v0 2) v5 x2) (zqV kd q)
    refine EvX.goto (off := (-51)) (tgt := 8) (by decide +kernel) (by decide) ?_
    exact EvX.weak (ls2 := [(2, v0), zJ, (0, v2), (0, iw (Int.tdiv v3 (iw (v2 - v5)))), (0, zor v4 (zshl 1 ((zup m3 (m v0 2) v5 x2) ((zup m3 (m v0 2) v5 x2) v0 2) v5))), (0, iw (v5 + 1)), zJ]) (zwk_of ⟨Or.inr rfl, Or.inl rfl, Or.inr rfl, Or.inr rfl, Or.inr rfl, Or.inr rfl, Or.inl rfl, trivial⟩) h
set_option maxRecDepth 20000 in
set_option maxHeartbeats 1000000 in
theorem T_Shape_freePlace_0 {d : Nat} {kd : ZK} {m : ZM} {q : Int → ZM → Prop} {v0 v1 v2 : Int} (h : (Ev (d + 1) M_Shape_freePlace 0 0 5 [(0, v0), zJ, (0, v2), (0, v1), (0, 0)] [] kd m (zqI kd q))) : Ev (d + 1) M_Shape_freePlace 0 0 0 [(0, v0), (0, v1), (0, v2), zJ, zJ] [] kd m (zqI kd q) := by
  refine EvX.blk (pc' := 5) [(.iload_n 1, 0, 0), (.istore_n 3, 0, 0), (.iconst 0, 0, 0), (.istore 4, 0, 0)] (by decide +kernel) trivial ?_
  show Ev (d + 1) M_Shape_freePlace 0 0 5 [(0, v0), (0, v1), (0, v2), (0, v1), (0, 0)] [] kd m (zqI kd q)
  exact EvX.weak (ls2 := [(0, v0), zJ, (0, v2), (0, v1), (0, 0)]) (zwk_of ⟨Or.inr rfl, Or.inl rfl, Or.inr rfl, Or.inr rfl, Or.inr rfl, trivial⟩) h
theorem S_Shape_freePlace {d : Nat} {kd : ZK} {m : ZM} {q : Int → ZM → Prop} {v0 v1 v2 : Int} (h : (Ev (d + 1) M_Shape_freePlace 0 0 5 [(0, v0), zJ, (0, v2), (0, v1), (0, 0)] [] kd m (zqI kd q))) : CtI (d + 1) M_Shape_freePlace [(0, v0), (0, v1), (0, v2)] kd m q :=
  Ct.start k_Shape_freePlace (Nat.le_of_ble_eq_true rfl) ⟨1, Or.inr (Or.inl ⟨rfl, rfl⟩)⟩ (T_Shape_freePlace_0 h)
set_option maxRecDepth 20000 in
set_option maxHeartbeats 1000000 in
theorem T_Shape_freePlace_5 {d : Nat} {kd : ZK} {m : ZM} {q : Int → ZM → Prop} {v0 v2 v3 v4 : Int} (h : ((v2 ≤ v4 → q 0 m) ∧ (¬ v2 ≤ v4 → (((zand (zshr v0 v4) 1) ≠ 0 → (Ev (d + 1) M_Shape_freePlace 0 0 5 [(0, v0), zJ, (0, v2), (0, v3), (0, iw (v4 + 1))] [] kd m (zqI kd q))) ∧ (¬ (zand (zshr v0 v4) 1) ≠ 0 → ((v3 ≠ 0 → (Ev (d + 1) M_Shape_freePlace 0 0 5 [(0, v0), zJ, (0, v2), (0, iw (v3 + (-1))), (0, iw (v4 + 1))] [] kd m (zqI kd q))) ∧ (¬ v3 ≠ 0 → q v4 m))))))) : Ev (d + 1) M_Shape_freePlace 0 0 5 [(0, v0), zJ, (0, v2), (0, v3), (0, v4)] [] kd m (zqI kd q) := by
  refine EvX.blk (pc' := 8) [(.iload 4, 0, 0), (.iload_n 2, 0, 0)] (by decide +kernel) trivial ?_
  show Ev (d + 1) M_Shape_freePlace 0 0 8 [(0, v0), zJ, (0, v2), (0, v3), (0, v4)] [(0, v2), (0, v4)] kd m (zqI kd q)
  refine EvX.icmp_ge (off := 28) (tgt := 36) (by decide +kernel) (by decide) (fun hc => ?_) (fun hc => ?_)
  · have h := h.1 hc
    refine EvX.blk (pc' := 37) [(.iconst 0, 0, 0)] (by decide +kernel) trivial ?_
    show Ev (d + 1) M_Shape_freePlace 0 0 37 [(0, v0), zJ, (0, v2), (0, v3), (0, v4)] [(0, 0)] kd m (zqI kd q)
    exact EvX.ret (r := (0, 0)) (by decide +kernel) rfl ⟨_, rfl, rfl, h⟩
  · have h := h.2 hc
    refine EvX.blk (pc' := 17) [(.iload_n 0, 0, 0), (.iload 4, 0, 0), (.ishr, 0, 0), (.iconst 1, 0, 0), (.iand, 0, 0)] (by decide +kernel) trivial ?_
    show Ev (d + 1) M_Shape_freePlace 0 0 17 [(0, v0), zJ, (0, v2), (0, v3), (0, v4)] [(0, zand (zshr v0 v4) 1)] kd m (zqI kd q)
    refine EvX.if_ne (off := 13) (tgt := 30) (by decide +kernel) (by decide) (fun hc => ?_) (fun hc => ?_)
    · have h := h.1 hc
      refine EvX.blk (pc' := 33) [(.iinc 4 1, 0, 0)] (by decide +kernel) trivial ?_
      show Ev (d + 1) M_Shape_freePlace 0 0 33 [(0, v0), zJ, (0, v2), (0, v3), (0, iw (v4 + 1))] [] kd m (zqI kd q)
      refine EvX.goto (off := (-28)) (tgt := 5) (by decide +kernel) (by decide) ?_
      exact h
    · have h := h.2 hc
      refine EvX.blk (pc' := 21) [(.iload_n 3, 0, 0)] (by decide +kernel) trivial ?_
      show Ev (d + 1) M_Shape_freePlace 0 0 21 [(0, v0), zJ, (0, v2), (0, v3), (0, v4)] [(0, v3)] kd m (zqI kd q)
      refine EvX.if_ne (off := 6) (tgt := 27) (by decide +kernel) (by decide) (fun hc => ?_) (fun hc => ?_)
      · have h := h.1 hc
        refine EvX.blk (pc' := 33) [(.iinc 3 (-1), 0, 0), (.iinc 4 1, 0, 0)] (by decide +kernel) trivial ?_
        show Ev (d + 1) M_Shape_freePlace 0 0 33 [(0, v0), zJ, (0, v2), (0, iw (v3 + (-1))), (0, iw (v4 + 1))] [] kd m (zqI kd q)
        refine EvX.goto (off := (-28)) (tgt := 5) (by decide +kernel) (by decide) ?_
        exact h
      · have h := h.2 hc
        refine EvX.blk (pc' := 26) [(.iload 4, 0, 0)] (by decide +kernel) trivial ?_
        show Ev (d + 1) M_Shape_freePlace 0 0 26 [(0, v0), zJ, (0, v2), (0, v3), (0, v4)] [(0, v4)] kd m (zqI kd q)
        exact EvX.ret (r := (0, v4)) (by decide +kernel) rfl ⟨_, rfl, rfl, h⟩
set_option maxRecDepth 20000 in
set_option maxHeartbeats 1000000 in
theorem T_Shape_ordersOfBen_0 {d : Nat} {kd : ZK} {m : ZM} {q : Int → ZM → Prop} {v0 v1 : Int} (h : (Ev (d + 1) M_Shape_ordersOfBen 0 0 7 [(2, v0), (2, v1), (0, 1), (0, 0), (0, 0), zJ, zJ, zJ] [] kd m (zqI kd q))) : Ev (d + 1) M_Shape_ordersOfBen 0 0 0 [(2, v0), (2, v1), zJ, zJ, zJ, zJ, zJ, zJ] [] kd m (zqI kd q) := by
  refine EvX.blk (pc' := 7) [(.iconst 1, 0, 0), (.istore_n 2, 0, 0), (.iconst 0, 0, 0), (.istore_n 3, 0, 0), (.iconst 0, 0, 0), (.istore 4, 0, 0)] (by decide +kernel) trivial ?_
  show Ev (d + 1) M_Shape_ordersOfBen 0 0 7 [(2, v0), (2, v1), (0, 1), (0, 0), (0, 0), zJ, zJ, zJ] [] kd m (zqI kd q)
  exact h
theorem S_Shape_ordersOfBen {d : Nat} {kd : ZK} {m : ZM} {q : Int → ZM → Prop} {v0 v1 : Int} (h : (Ev (d + 1) M_Shape_ordersOfBen 0 0 7 [(2, v0), (2, v1), (0, 1), (0, 0), (0, 0), zJ, zJ, zJ] [] kd m (zqI kd q))) : CtI (d + 1) M_Shape_ordersOfBen [(2, v0), (2, v1)] kd m q :=
  Ct.start k_Shape_ordersOfBen (Nat.le_of_ble_eq_true rfl) ⟨1, Or.inr (Or.inl ⟨rfl, rfl⟩)⟩ (T_Shape_ordersOfBen_0 h)
set_option maxRecDepth 20000 in
set_option maxHeartbeats 1000000 in
theorem T_Shape_ordersOfBen_7 {d : Nat} {kd : ZK} {m : ZM} {q : Int → ZM → Prop} {v0 v1 v2 v3 v4 : Int} (h : (zobj kd v1 1 ∧ (((m v1 1) ≤ v4 → q v2 m) ∧ (¬ (m v1 1) ≤ v4 → ((v2 ≤ 0 → q v2 m) ∧ (¬ v2 ≤ 0 → (Ev (d + 1) M_Shape_ordersOfBen 0 0 29 [(2, v0), (2, v1), (0, v2), (0, v3), (0, v4), (0, 0), (0, 0), (0, 0)] [] kd m (zqI kd q)))))))) : Ev (d + 1) M_Shape_ordersOfBen 0 0 7 [(2, v0), (2, v1), (0, v2), (0, v3), (0, v4), zJ, zJ, zJ] [] kd m (zqI kd q) := by
  obtain ⟨o1, h⟩ := h
  refine EvX.blk (pc' := 13) [(.iload 4, 0, 0), (.aload_n 1, 0, 0), (.getfield 37, 1, 1)] (by decide +kernel) ⟨g_Shape_37, trivial⟩ ⟨o1, ?_⟩
  show Ev (d + 1) M_Shape_ordersOfBen 0 0 13 [(2, v0), (2, v1), (0, v2), (0, v3), (0, v4), zJ, zJ, zJ] [(0, m v1 1), (0, v4)] kd m (zqI kd q)
  refine EvX.icmp_ge (off := 80) (tgt := 93) (by decide +kernel) (by decide) (fun hc => ?_) (fun hc => ?_)
  · have h := h.1 hc
    refine EvX.blk (pc' := 94) [(.iload_n 2, 0, 0)] (by decide +kernel) trivial ?_
    show Ev (d + 1) M_Shape_ordersOfBen 0 0 94 [(2, v0), (2, v1), (0, v2), (0, v3), (0, v4), zJ, zJ, zJ] [(0, v2)] kd m (zqI kd q)
    exact EvX.ret (r := (0, v2)) (by decide +kernel) rfl ⟨_, rfl, rfl, h⟩
  · have h := h.2 hc
    refine EvX.blk (pc' := 17) [(.iload_n 2, 0, 0)] (by decide +kernel) trivial ?_
    show Ev (d + 1) M_Shape_ordersOfBen 0 0 17 [(2, v0), (2, v1), (0, v2), (0, v3), (0, v4), zJ, zJ, zJ] [(0, v2)] kd m (zqI kd q)
    refine EvX.if_le (off := 76) (tgt := 93) (by decide +kernel) (by decide) (fun hc => ?_) (fun hc => ?_)
    · have h := h.1 hc
      refine EvX.blk (pc' := 94) [(.iload_n 2, 0, 0)] (by decide +kernel) trivial ?_
      show Ev (d + 1) M_Shape_ordersOfBen 0 0 94 [(2, v0), (2, v1), (0, v2), (0, v3), (0, v4), zJ, zJ, zJ] [(0, v2)] kd m (zqI kd q)
      exact EvX.ret (r := (0, v2)) (by decide +kernel) rfl ⟨_, rfl, rfl, h⟩
    · have h := h.2 hc
      refine EvX.blk (pc' := 29) [(.iconst 0, 0, 0), (.istore 5, 0, 0), (.iconst 0, 0, 0), (.istore 6, 0, 0), (.iconst 0, 0, 0), (.istore 7, 0, 0)] (by decide +kernel) trivial ?_
      show Ev (d + 1) M_Shape_ordersOfBen 0 0 29 [(2, v0), (2, v1), (0, v2), (0, v3), (0, v4), (0, 0), (0, 0), (0, 0)] [] kd m (zqI kd q)
      exact h
set_option maxRecDepth 20000 in
set_option maxHeartbeats 1000000 in
theorem T_Shape_ordersOfBen_29 {d : Nat} {kd : ZK} {m : ZM} {q : Int → ZM → Prop} {v0 v1 v2 v3 v4 v5 v6 v7 : Int} (h : (zobj kd v1 1 ∧ (((m v1 1) ≤ v7 → (Ev (d + 1) M_Shape_ordersOfBen 0 0 7 [(2, v0), (2, v1), (0, iw (v2 * v5)), (0, zor v3 (zshl 1 v6)), (0, iw (v4 + 1)), zJ, zJ, zJ] [] kd m (zqI kd q))) ∧ (¬ (m v1 1) ≤ v7 → (((zand (zshr v3 v7) 1) ≠ 0 → (Ev (d + 1) M_Shape_ordersOfBen 0 0 29 [(2, v0), (2, v1), (0, v2), (0, v3), (0, v4), (0, v5), (0, v6), (0, iw (v7 + 1))] [] kd m (zqI kd q))) ∧ (¬ (zand (zshr v3 v7) 1) ≠ 0 → (zobj kd v1 1 ∧ (zobj kd v0 4 ∧ ∃ q1, CtI d M_Shape_looksLike [(2, v0), (0, m v1 0), (0, v4), (0, v7)] kd m q1 ∧ ∀ x2 m3, q1 x2 m3 → ((x2 = 0 → (Ev (d + 1) M_Shape_ordersOfBen 0 0 29 [(2, v0), (2, v1), (0, v2), (0, v3), (0, v4), (0, v5), (0, v6), (0, iw (v7 + 1))] [] kd m3 (zqI kd q))) ∧ (¬ x2 = 0 → (Ev (d + 1) M_Shape_ordersOfBen 0 0 29 [(2, v0), (2, v1), (0, v2), (0, v3), (0, v4), (0, iw (v5 + 1)), (0, v7), (0, iw (v7 + 1))] [] kd m3 (zqI kd q)))))))))))) : Ev (d + 1) M_Shape_ordersOfBen 0 0 29 [(2, v0), (2, v1), (0, v2), (0, v3), (0, v4), (0, v5), (0, v6), (0, v7)] [] kd m (zqI kd q) := by
  obtain ⟨o1, h⟩ := h
  refine EvX.blk (pc' := 35) [(.iload 7, 0, 0), (.aload_n 1, 0, 0), (.getfield 37, 1, 1)] (by decide +kernel) ⟨g_Shape_37, trivial⟩ ⟨o1, ?_⟩
  show Ev (d + 1) M_Shape_ordersOfBen 0 0 35 [(2, v0), (2, v1), (0, v2), (0, v3), (0, v4), (0, v5), (0, v6), (0, v7)] [(0, m v1 1), (0, v7)] kd m (zqI kd q)
  refine EvX.icmp_ge (off := 40) (tgt := 75) (by decide +kernel) (by decide) (fun hc => ?_) (fun hc => ?_)
  · have h := h.1 hc
    refine EvX.blk (pc' := 90) [(.iload_n 3, 0, 0), (.iconst 1, 0, 0), (.iload 6, 0, 0), (.ishl, 0, 0), (.ior, 0, 0), (.istore_n 3, 0, 0), (.iload_n 2, 0, 0), (.iload 5, 0, 0), (.imul, 0, 0), (.istore_n 2, 0, 0), (.iinc 4 1, 0, 0)] (by decide +kernel) trivial ?_
    show Ev (d + 1) M_Shape_ordersOfBen 0 0 90 [(2, v0), (2, v1), (0, iw (v2 * v5)), (0, zor v3 (zshl 1 v6)), (0, iw (v4 + 1)), (0, v5), (0, v6), (0, v7)] [] kd m (zqI kd q)
    refine EvX.goto (off := (-83)) (tgt := 7) (by decide +kernel) (by decide) ?_
    exact EvX.weak (ls2 := [(2, v0), (2, v1), (0, iw (v2 * v5)), (0, zor v3 (zshl 1 v6)), (0, iw (v4 + 1)), zJ, zJ, zJ]) (zwk_of ⟨Or.inr rfl, Or.inr rfl, Or.inr rfl, Or.inr rfl, Or.inr rfl, Or.inl rfl, Or.inl rfl, Or.inl rfl, trivial⟩) h
  · have h := h.2 hc
    refine EvX.blk (pc' := 44) [(.iload_n 3, 0, 0), (.iload 7, 0, 0), (.ishr, 0, 0), (.iconst 1, 0, 0), (.iand, 0, 0)] (by decide +kernel) trivial ?_
    show Ev (d + 1) M_Shape_ordersOfBen 0 0 44 [(2, v0), (2, v1), (0, v2), (0, v3), (0, v4), (0, v5), (0, v6), (0, v7)] [(0, zand (zshr v3 v7) 1)] kd m (zqI kd q)
    refine EvX.if_ne (off := 25) (tgt := 69) (by decide +kernel) (by decide) (fun hc => ?_) (fun hc => ?_)
    · have h := h.1 hc
      refine EvX.blk (pc' := 72) [(.iinc 7 1, 0, 0)] (by decide +kernel) trivial ?_
      show Ev (d + 1) M_Shape_ordersOfBen 0 0 72 [(2, v0), (2, v1), (0, v2), (0, v3), (0, v4), (0, v5), (0, v6), (0, iw (v7 + 1))] [] kd m (zqI kd q)
      refine EvX.goto (off := (-43)) (tgt := 29) (by decide +kernel) (by decide) ?_
      exact h
    · have h := h.2 hc
      obtain ⟨o1, h⟩ := h
      refine EvX.blk (pc' := 56) [(.aload_n 0, 0, 0), (.aload_n 1, 0, 0), (.getfield 31, 1, 0), (.iload 4, 0, 0), (.iload 7, 0, 0)] (by decide +kernel) ⟨g_Shape_31, trivial⟩ ⟨o1, ?_⟩
      show Ev (d + 1) M_Shape_ordersOfBen 0 0 56 [(2, v0), (2, v1), (0, v2), (0, v3), (0, v4), (0, v5), (0, v6), (0, v7)] [(0, v7), (0, v4), (0, m v1 0), (2, v0)] kd m (zqI kd q)
      obtain ⟨ov, h⟩ := h
      obtain ⟨q1, hq, h⟩ := h
      refine EvX.callV (c := 4) (mc := 0) (ms := 0) (as := [(0, m v1 0), (0, v4), (0, v7)]) (st := []) (by decide +kernel) l_Shape_80 k_Shape_looksLike v_Shape_looksLike a_Shape_looksLike (by decide) (Nat.le_of_ble_eq_true rfl) rfl ov hq (fun r kd1 m3 hr => ?_)
      obtain ⟨x2, rfl, hk, hr⟩ := hr
      subst kd1
      have h := h x2 m3 hr
      show Ev (d + 1) M_Shape_ordersOfBen 0 0 59 [(2, v0), (2, v1), (0, v2), (0, v3), (0, v4), (0, v5), (0, v6), (0, v7)] [(0, x2)] kd m3 (zqI kd q)
      refine EvX.if_eq (off := 10) (tgt := 69) (by decide +kernel) (by decide) (fun hc => ?_) (fun hc => ?_)
      · have h := h.1 hc
        refine EvX.blk (pc' := 72) [(.iinc 7 1, 0, 0)] (by decide +kernel) trivial ?_
        show Ev (d + 1) M_Shape_ordersOfBen 0 0 72 [(2, v0), (2, v1), (0, v2), (0, v3), (0, v4), (0, v5), (0, v6), (0, iw (v7 + 1))] [] kd m3 (zqI kd q)
        refine EvX.goto (off := (-43)) (tgt := 29) (by decide +kernel) (by decide) ?_
        exact h
      · have h := h.2 hc
        refine EvX.blk (pc' := 72) [(.iinc 5 1, 0, 0), (.iload 7, 0, 0), (.istore 6, 0, 0), (.iinc 7 1, 0, 0)] (by decide +kernel) trivial ?_
        show Ev (d + 1) M_Shape_ordersOfBen 0 0 72 [(2, v0), (2, v1), (0, v2), (0, v3), (0, v4), (0, iw (v5 + 1)), (0, v7), (0, iw (v7 + 1))] [] kd m3 (zqI kd q)
        refine EvX.goto (off := (-43)) (tgt := 29) (by decide +kernel) (by decide) ?_
        exact h
set_option maxRecDepth 20000 in
set_option maxHeartbeats 1000000 in
theorem T_Shape_looksLike_0 {d : Nat} {kd : ZK} {m : ZM} {q : Int → ZM → Prop} {v0 v1 v2 v3 : Int} (h : (Ev (d + 1) M_Shape_looksLike 0 0 3 [(2, v0), (0, v1), (0, v2), (0, v3), (0, 0)] [] kd m (zqI kd q))) : Ev (d + 1) M_Shape_looksLike 0 0 0 [(2, v0), (0, v1), (0, v2), (0, v3), zJ] [] kd m (zqI kd q) := by
  refine EvX.blk (pc' := 3) [(.iconst 0, 0, 0), (.istore 4, 0, 0)] (by decide +kernel) trivial ?_
  show Ev (d + 1) M_Shape_looksLike 0 0 3 [(2, v0), (0, v1), (0, v2), (0, v3), (0, 0)] [] kd m (zqI kd q)
  exact h
theorem S_Shape_looksLike {d : Nat} {kd : ZK} {m : ZM} {q : Int → ZM → Prop} {v0 v1 v2 v3 : Int} (h : (Ev (d + 1) M_Shape_looksLike 0 0 3 [(2, v0), (0, v1), (0, v2), (0, v3), (0, 0)] [] kd m (zqI kd q))) : CtI (d + 1) M_Shape_looksLike [(2, v0), (0, v1), (0, v2), (0, v3)] kd m q :=
  Ct.start k_Shape_looksLike (Nat.le_of_ble_eq_true rfl) ⟨2, Or.inr (Or.inr (Or.inl ⟨rfl, rfl⟩))⟩ (T_Shape_looksLike_0 h)
set_option maxRecDepth 20000 in
set_option maxHeartbeats 1000000 in
theorem T_Shape_looksLike_3 {d : Nat} {kd : ZK} {m : ZM} {q : Int → ZM → Prop} {v0 v1 v2 v3 v4 : Int} (h : ((v1 ≤ v4 → q 1 m) ∧ (¬ v1 ≤ v4 → (zobj kd v0 4 ∧ (∃ q1, CtI d M_Ap_cellOf [(0, 0), (0, v4), (0, v2)] kd m q1 ∧ ∀ x2 m3, q1 x2 m3 → (zIn kd (m v0 1) 0 x2 ∧ zobj kd v0 4 ∧ zobj kd v0 4 ∧ zIn kd (m3 v0 2) 0 v4 ∧ (∃ q4, CtI d M_Ap_cellOf [(0, 0), (0, m3 (m3 v0 2) v4), (0, v3)] kd m3 q4 ∧ ∀ x5 m6, q4 x5 m6 → (zIn kd (m3 v0 1) 0 x5 ∧ (((m3 (m v0 1) x2) = (m6 (m3 v0 1) x5) → (Ev (d + 1) M_Shape_looksLike 0 0 3 [(2, v0), (0, v1), (0, v2), (0, v3), (0, iw (v4 + 1))] [] kd m6 (zqI kd q))) ∧ (¬ (m3 (m v0 1) x2) = (m6 (m3 v0 1) x5) → q 0 m6)))))))))) : Ev (d + 1) M_Shape_looksLike 0 0 3 [(2, v0), (0, v1), (0, v2), (0, v3), (0, v4)] [] kd m (zqI kd q) := by
  refine EvX.blk (pc' := 6) [(.iload 4, 0, 0), (.iload_n 1, 0, 0)] (by decide +kernel) trivial ?_
  show Ev (d + 1) M_Shape_looksLike 0 0 6 [(2, v0), (0, v1), (0, v2), (0, v3), (0, v4)] [(0, v1), (0, v4)] kd m (zqI kd q)
  refine EvX.icmp_ge (off := 43) (tgt := 49) (by decide +kernel) (by decide) (fun hc => ?_) (fun hc => ?_)
  · have h := h.1 hc
    refine EvX.blk (pc' := 50) [(.iconst 1, 0, 0)] (by decide +kernel) trivial ?_
    show Ev (d + 1) M_Shape_looksLike 0 0 50 [(2, v0), (0, v1), (0, v2), (0, v3), (0, v4)] [(0, 1)] kd m (zqI kd q)
    exact EvX.ret (r := (0, 1)) (by decide +kernel) ⟨rfl, by decide, by decide⟩ ⟨_, rfl, rfl, h⟩
  · have h := h.2 hc
    obtain ⟨o1, h⟩ := h
    refine EvX.blk (pc' := 17) [(.aload_n 0, 0, 0), (.getfield 15, 4, 1), (.iconst 0, 0, 0), (.iload 4, 0, 0), (.iload_n 2, 0, 0)] (by decide +kernel) ⟨g_Shape_15, trivial⟩ ⟨o1, ?_⟩
    show Ev (d + 1) M_Shape_looksLike 0 0 17 [(2, v0), (0, v1), (0, v2), (0, v3), (0, v4)] [(0, v2), (0, v4), (0, 0), (2, m v0 1)] kd m (zqI kd q)
    obtain ⟨q1, hq, h⟩ := h
    refine EvX.callS (mc := 0) (ms := 0) (as := [(0, 0), (0, v4), (0, v2)]) (st := [(2, m v0 1)]) (by decide +kernel) l_Shape_43 k_Ap_cellOf s_Ap_cellOf a_Ap_cellOf (by decide) (Nat.le_of_ble_eq_true rfl) hq (fun r kd1 m3 hr => ?_)
    obtain ⟨x2, rfl, hk, hr⟩ := hr
    subst kd1
    have h := h x2 m3 hr
    show Ev (d + 1) M_Shape_looksLike 0 0 20 [(2, v0), (0, v1), (0, v2), (0, v3), (0, v4)] [(0, x2), (2, m v0 1)] kd m3 (zqI kd q)
    obtain ⟨o1, o2, o3, o4, h⟩ := h
    refine EvX.blk (pc' := 34) [(.iaload, 0, 0), (.aload_n 0, 0, 0), (.getfield 15, 4, 1), (.iconst 0, 0, 0), (.aload_n 0, 0, 0), (.getfield 18, 4, 2), (.iload 4, 0, 0), (.iaload, 0, 0), (.iload_n 3, 0, 0)] (by decide +kernel) ⟨g_Shape_15, g_Shape_18, trivial⟩ ⟨o1, o2, o3, o4, ?_⟩
    show Ev (d + 1) M_Shape_looksLike 0 0 34 [(2, v0), (0, v1), (0, v2), (0, v3), (0, v4)] [(0, v3), (0, m3 (m3 v0 2) v4), (0, 0), (2, m3 v0 1), (0, m3 (m v0 1) x2)] kd m3 (zqI kd q)
    obtain ⟨q4, hq, h⟩ := h
    refine EvX.callS (mc := 0) (ms := 0) (as := [(0, 0), (0, m3 (m3 v0 2) v4), (0, v3)]) (st := [(2, m3 v0 1), (0, m3 (m v0 1) x2)]) (by decide +kernel) l_Shape_43 k_Ap_cellOf s_Ap_cellOf a_Ap_cellOf (by decide) (Nat.le_of_ble_eq_true rfl) hq (fun r kd1 m6 hr => ?_)
    obtain ⟨x5, rfl, hk, hr⟩ := hr
    subst kd1
    have h := h x5 m6 hr
    show Ev (d + 1) M_Shape_looksLike 0 0 37 [(2, v0), (0, v1), (0, v2), (0, v3), (0, v4)] [(0, x5), (2, m3 v0 1), (0, m3 (m v0 1) x2)] kd m6 (zqI kd q)
    obtain ⟨o1, h⟩ := h
    refine EvX.blk (pc' := 38) [(.iaload, 0, 0)] (by decide +kernel) trivial ⟨o1, ?_⟩
    show Ev (d + 1) M_Shape_looksLike 0 0 38 [(2, v0), (0, v1), (0, v2), (0, v3), (0, v4)] [(0, m6 (m3 v0 1) x5), (0, m3 (m v0 1) x2)] kd m6 (zqI kd q)
    refine EvX.icmp_eq (off := 5) (tgt := 43) (by decide +kernel) (by decide) (fun hc => ?_) (fun hc => ?_)
    · have h := h.1 hc
      refine EvX.blk (pc' := 46) [(.iinc 4 1, 0, 0)] (by decide +kernel) trivial ?_
      show Ev (d + 1) M_Shape_looksLike 0 0 46 [(2, v0), (0, v1), (0, v2), (0, v3), (0, iw (v4 + 1))] [] kd m6 (zqI kd q)
      refine EvX.goto (off := (-43)) (tgt := 3) (by decide +kernel) (by decide) ?_
      exact h
    · have h := h.2 hc
      refine EvX.blk (pc' := 42) [(.iconst 0, 0, 0)] (by decide +kernel) trivial ?_
      show Ev (d + 1) M_Shape_looksLike 0 0 42 [(2, v0), (0, v1), (0, v2), (0, v3), (0, v4)] [(0, 0)] kd m6 (zqI kd q)
      exact EvX.ret (r := (0, 0)) (by decide +kernel) ⟨rfl, by decide, by decide⟩ ⟨_, rfl, rfl, h⟩
