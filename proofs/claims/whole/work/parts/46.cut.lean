/-! TREES anew, with more cuts -/
set_option maxRecDepth 20000 in
set_option maxHeartbeats 1000000 in
theorem U_Game_become_0 {d : Nat} {kd : ZK} {m : ZM} {q : ZM → Prop} {v0 v1 : Int} (h : (zobj kd v1 1 ∧ zobj kd v0 1 ∧ (Ev (d + 1) M_Game_become 0 0 8 [(2, v0), (2, v1)] [] kd (zup m v0 0 (m v1 0)) (zqV kd q)))) : Ev (d + 1) M_Game_become 0 0 0 [(2, v0), (2, v1)] [] kd m (zqV kd q) := by
  obtain ⟨o1, o2, h⟩ := h
  refine EvX.blk (pc' := 8) [(.aload_n 0, 0, 0), (.aload_n 1, 0, 0), (.getfield 11, 1, 0), (.putfield 11, 1, 0)] (by decide +kernel) ⟨g_Game_11, ⟨g_Game_11, p_Game_11⟩, trivial⟩ ⟨o1, rfl, o2, ?_⟩
  show Ev (d + 1) M_Game_become 0 0 8 [(2, v0), (2, v1)] [] kd (zup m v0 0 (m v1 0)) (zqV kd q)
  exact h
theorem US_Game_become {d : Nat} {kd : ZK} {m : ZM} {q : ZM → Prop} {v0 v1 : Int} (h : (zobj kd v1 1 ∧ zobj kd v0 1 ∧ (Ev (d + 1) M_Game_become 0 0 8 [(2, v0), (2, v1)] [] kd (zup m v0 0 (m v1 0)) (zqV kd q)))) : CtV (d + 1) M_Game_become [(2, v0), (2, v1)] kd m q :=
  Ct.start k_Game_become (Nat.le_of_ble_eq_true rfl) ⟨0, Or.inl ⟨rfl, rfl⟩⟩ (U_Game_become_0 h)
set_option maxRecDepth 20000 in
set_option maxHeartbeats 1000000 in
theorem U_Game_become_8 {d : Nat} {kd : ZK} {m : ZM} {q : ZM → Prop} {v0 v1 : Int} (h : (zobj kd v1 1 ∧ zobj kd v0 1 ∧ (Ev (d + 1) M_Game_become 0 0 16 [(2, v0), (2, v1)] [] kd (zup m v0 1 (m v1 1)) (zqV kd q)))) : Ev (d + 1) M_Game_become 0 0 8 [(2, v0), (2, v1)] [] kd m (zqV kd q) := by
  obtain ⟨o1, o2, h⟩ := h
  refine EvX.blk (pc' := 16) [(.aload_n 0, 0, 0), (.aload_n 1, 0, 0), (.getfield 15, 1, 1), (.putfield 15, 1, 1)] (by decide +kernel) ⟨g_Game_15, ⟨g_Game_15, p_Game_15⟩, trivial⟩ ⟨o1, rfl, o2, ?_⟩
  show Ev (d + 1) M_Game_become 0 0 16 [(2, v0), (2, v1)] [] kd (zup m v0 1 (m v1 1)) (zqV kd q)
  exact h
set_option maxRecDepth 20000 in
set_option maxHeartbeats 1000000 in
theorem U_Game_become_16 {d : Nat} {kd : ZK} {m : ZM} {q : ZM → Prop} {v0 v1 : Int} (h : (zobj kd v1 1 ∧ zobj kd v0 1 ∧ (Ev (d + 1) M_Game_become 0 0 24 [(2, v0), (2, v1)] [] kd (zup m v0 2 (m v1 2)) (zqV kd q)))) : Ev (d + 1) M_Game_become 0 0 16 [(2, v0), (2, v1)] [] kd m (zqV kd q) := by
  obtain ⟨o1, o2, h⟩ := h
  refine EvX.blk (pc' := 24) [(.aload_n 0, 0, 0), (.aload_n 1, 0, 0), (.getfield 18, 1, 2), (.putfield 18, 1, 2)] (by decide +kernel) ⟨g_Game_18, ⟨g_Game_18, p_Game_18⟩, trivial⟩ ⟨o1, rfl, o2, ?_⟩
  show Ev (d + 1) M_Game_become 0 0 24 [(2, v0), (2, v1)] [] kd (zup m v0 2 (m v1 2)) (zqV kd q)
  exact h
set_option maxRecDepth 20000 in
set_option maxHeartbeats 1000000 in
theorem U_Game_become_24 {d : Nat} {kd : ZK} {m : ZM} {q : ZM → Prop} {v0 v1 : Int} (h : (zobj kd v1 1 ∧ zobj kd v0 1 ∧ (Ev (d + 1) M_Game_become 0 0 32 [(2, v0), (2, v1)] [] kd (zup m v0 3 (m v1 3)) (zqV kd q)))) : Ev (d + 1) M_Game_become 0 0 24 [(2, v0), (2, v1)] [] kd m (zqV kd q) := by
  obtain ⟨o1, o2, h⟩ := h
  refine EvX.blk (pc' := 32) [(.aload_n 0, 0, 0), (.aload_n 1, 0, 0), (.getfield 21, 1, 3), (.putfield 21, 1, 3)] (by decide +kernel) ⟨g_Game_21, ⟨g_Game_21, p_Game_21⟩, trivial⟩ ⟨o1, rfl, o2, ?_⟩
  show Ev (d + 1) M_Game_become 0 0 32 [(2, v0), (2, v1)] [] kd (zup m v0 3 (m v1 3)) (zqV kd q)
  exact h
set_option maxRecDepth 20000 in
set_option maxHeartbeats 1000000 in
theorem U_Game_become_32 {d : Nat} {kd : ZK} {m : ZM} {q : ZM → Prop} {v0 v1 : Int} (h : (zobj kd v1 1 ∧ zobj kd v0 1 ∧ (∃ nb na : Nat, zarr kd (m v1 4) 0 nb ∧ zarr kd (m v0 4) 0 na ∧ (0 : Int) ≤ 0 ∧ (0 : Int) ≤ 0 ∧ (0 : Int) ≤ 25 ∧ (0 : Int) + 25 ≤ (nb : Int) ∧ (0 : Int) + 25 ≤ (na : Int) ∧ (Ev (d + 1) M_Game_become 0 0 47 [(2, v0), (2, v1)] [] kd (zcpy m (m v1 4) 0 (m v0 4) 0 25) (zqV kd q))))) : Ev (d + 1) M_Game_become 0 0 32 [(2, v0), (2, v1)] [] kd m (zqV kd q) := by
  obtain ⟨o1, o2, h⟩ := h
  refine EvX.blk (pc' := 44) [(.aload_n 1, 0, 0), (.getfield 24, 1, 4), (.iconst 0, 0, 0), (.aload_n 0, 0, 0), (.getfield 24, 1, 4), (.iconst 0, 0, 0), (.bipush 25, 0, 0)] (by decide +kernel) ⟨g_Game_24, g_Game_24, trivial⟩ ⟨o1, o2, ?_⟩
  show Ev (d + 1) M_Game_become 0 0 44 [(2, v0), (2, v1)] [(0, 25), (0, 0), (2, m v0 4), (0, 0), (2, m v1 4)] kd m (zqV kd q)
  obtain ⟨nb, na, ob, oa, o1, o2, o3, o4, o5, h⟩ := h
  refine EvX.acopy' (by decide +kernel) y_Game_34 ob oa o1 o2 o3 o4 o5 (Nat.le_of_ble_eq_true rfl) ?_
  show Ev (d + 1) M_Game_become 0 0 47 [(2, v0), (2, v1)] [] kd (zcpy m (m v1 4) 0 (m v0 4) 0 25) (zqV kd q)
  exact h
set_option maxRecDepth 20000 in
set_option maxHeartbeats 1000000 in
theorem U_Game_become_47 {d : Nat} {kd : ZK} {m : ZM} {q : ZM → Prop} {v0 v1 : Int} (h : (zobj kd v1 1 ∧ zobj kd v0 1 ∧ (∃ nb na : Nat, zarr kd (m v1 5) 0 nb ∧ zarr kd (m v0 5) 0 na ∧ (0 : Int) ≤ 0 ∧ (0 : Int) ≤ 0 ∧ (0 : Int) ≤ 400 ∧ (0 : Int) + 400 ≤ (nb : Int) ∧ (0 : Int) + 400 ≤ (na : Int) ∧ (Ev (d + 1) M_Game_become 0 0 63 [(2, v0), (2, v1)] [] kd (zcpy m (m v1 5) 0 (m v0 5) 0 400) (zqV kd q))))) : Ev (d + 1) M_Game_become 0 0 47 [(2, v0), (2, v1)] [] kd m (zqV kd q) := by
  obtain ⟨o1, o2, h⟩ := h
  refine EvX.blk (pc' := 60) [(.aload_n 1, 0, 0), (.getfield 28, 1, 5), (.iconst 0, 0, 0), (.aload_n 0, 0, 0), (.getfield 28, 1, 5), (.iconst 0, 0, 0), (.sipush 400, 0, 0)] (by decide +kernel) ⟨g_Game_28, g_Game_28, trivial⟩ ⟨o1, o2, ?_⟩
  show Ev (d + 1) M_Game_become 0 0 60 [(2, v0), (2, v1)] [(0, 400), (0, 0), (2, m v0 5), (0, 0), (2, m v1 5)] kd m (zqV kd q)
  obtain ⟨nb, na, ob, oa, o1, o2, o3, o4, o5, h⟩ := h
  refine EvX.acopy' (by decide +kernel) y_Game_34 ob oa o1 o2 o3 o4 o5 (Nat.le_of_ble_eq_true rfl) ?_
  show Ev (d + 1) M_Game_become 0 0 63 [(2, v0), (2, v1)] [] kd (zcpy m (m v1 5) 0 (m v0 5) 0 400) (zqV kd q)
  exact h
set_option maxRecDepth 20000 in
set_option maxHeartbeats 1000000 in
theorem U_Game_become_63 {d : Nat} {kd : ZK} {m : ZM} {q : ZM → Prop} {v0 v1 : Int} (h : (zobj kd v1 1 ∧ zobj kd v0 1 ∧ (∃ nb na : Nat, zarr kd (m v1 6) 0 nb ∧ zarr kd (m v0 6) 0 na ∧ (0 : Int) ≤ 0 ∧ (0 : Int) ≤ 0 ∧ (0 : Int) ≤ 400 ∧ (0 : Int) + 400 ≤ (nb : Int) ∧ (0 : Int) + 400 ≤ (na : Int) ∧ q (zcpy m (m v1 6) 0 (m v0 6) 0 400)))) : Ev (d + 1) M_Game_become 0 0 63 [(2, v0), (2, v1)] [] kd m (zqV kd q) := by
  obtain ⟨o1, o2, h⟩ := h
  refine EvX.blk (pc' := 76) [(.aload_n 1, 0, 0), (.getfield 31, 1, 6), (.iconst 0, 0, 0), (.aload_n 0, 0, 0), (.getfield 31, 1, 6), (.iconst 0, 0, 0), (.sipush 400, 0, 0)] (by decide +kernel) ⟨g_Game_31, g_Game_31, trivial⟩ ⟨o1, o2, ?_⟩
  show Ev (d + 1) M_Game_become 0 0 76 [(2, v0), (2, v1)] [(0, 400), (0, 0), (2, m v0 6), (0, 0), (2, m v1 6)] kd m (zqV kd q)
  obtain ⟨nb, na, ob, oa, o1, o2, o3, o4, o5, h⟩ := h
  refine EvX.acopy' (by decide +kernel) y_Game_34 ob oa o1 o2 o3 o4 o5 (Nat.le_of_ble_eq_true rfl) ?_
  show Ev (d + 1) M_Game_become 0 0 79 [(2, v0), (2, v1)] [] kd (zcpy m (m v1 6) 0 (m v0 6) 0 400) (zqV kd q)
  exact EvX.ret (r := zJ) (by decide +kernel) rfl ⟨rfl, rfl, h⟩
set_option maxRecDepth 20000 in
set_option maxHeartbeats 1000000 in
theorem U_Game_becomeFlipped_0 {d : Nat} {kd : ZK} {m : ZM} {q : ZM → Prop} {v0 v1 : Int} (h : (zobj kd v1 1 ∧ zobj kd v0 1 ∧ (Ev (d + 1) M_Game_becomeFlipped 0 0 8 [(2, v0), (2, v1), zJ, zJ] [] kd (zup m v0 0 (m v1 1)) (zqV kd q)))) : Ev (d + 1) M_Game_becomeFlipped 0 0 0 [(2, v0), (2, v1), zJ, zJ] [] kd m (zqV kd q) := by
  obtain ⟨o1, o2, h⟩ := h
  refine EvX.blk (pc' := 8) [(.aload_n 0, 0, 0), (.aload_n 1, 0, 0), (.getfield 15, 1, 1), (.putfield 11, 1, 0)] (by decide +kernel) ⟨g_Game_15, ⟨g_Game_11, p_Game_11⟩, trivial⟩ ⟨o1, rfl, o2, ?_⟩
  show Ev (d + 1) M_Game_becomeFlipped 0 0 8 [(2, v0), (2, v1), zJ, zJ] [] kd (zup m v0 0 (m v1 1)) (zqV kd q)
  exact h
theorem US_Game_becomeFlipped {d : Nat} {kd : ZK} {m : ZM} {q : ZM → Prop} {v0 v1 : Int} (h : (zobj kd v1 1 ∧ zobj kd v0 1 ∧ (Ev (d + 1) M_Game_becomeFlipped 0 0 8 [(2, v0), (2, v1), zJ, zJ] [] kd (zup m v0 0 (m v1 1)) (zqV kd q)))) : CtV (d + 1) M_Game_becomeFlipped [(2, v0), (2, v1)] kd m q :=
  Ct.start k_Game_becomeFlipped (Nat.le_of_ble_eq_true rfl) ⟨0, Or.inl ⟨rfl, rfl⟩⟩ (U_Game_becomeFlipped_0 h)
set_option maxRecDepth 20000 in
set_option maxHeartbeats 1000000 in
theorem U_Game_becomeFlipped_8 {d : Nat} {kd : ZK} {m : ZM} {q : ZM → Prop} {v0 v1 : Int} (h : (zobj kd v1 1 ∧ zobj kd v0 1 ∧ (Ev (d + 1) M_Game_becomeFlipped 0 0 16 [(2, v0), (2, v1), zJ, zJ] [] kd (zup m v0 1 (m v1 0)) (zqV kd q)))) : Ev (d + 1) M_Game_becomeFlipped 0 0 8 [(2, v0), (2, v1), zJ, zJ] [] kd m (zqV kd q) := by
  obtain ⟨o1, o2, h⟩ := h
  refine EvX.blk (pc' := 16) [(.aload_n 0, 0, 0), (.aload_n 1, 0, 0), (.getfield 11, 1, 0), (.putfield 15, 1, 1)] (by decide +kernel) ⟨g_Game_11, ⟨g_Game_15, p_Game_15⟩, trivial⟩ ⟨o1, rfl, o2, ?_⟩
  show Ev (d + 1) M_Game_becomeFlipped 0 0 16 [(2, v0), (2, v1), zJ, zJ] [] kd (zup m v0 1 (m v1 0)) (zqV kd q)
  exact h
set_option maxRecDepth 20000 in
set_option maxHeartbeats 1000000 in
theorem U_Game_becomeFlipped_16 {d : Nat} {kd : ZK} {m : ZM} {q : ZM → Prop} {v0 v1 : Int} (h : (zobj kd v1 1 ∧ zobj kd v0 1 ∧ (Ev (d + 1) M_Game_becomeFlipped 0 0 24 [(2, v0), (2, v1), zJ, zJ] [] kd (zup m v0 2 (m v1 3)) (zqV kd q)))) : Ev (d + 1) M_Game_becomeFlipped 0 0 16 [(2, v0), (2, v1), zJ, zJ] [] kd m (zqV kd q) := by
  obtain ⟨o1, o2, h⟩ := h
  refine EvX.blk (pc' := 24) [(.aload_n 0, 0, 0), (.aload_n 1, 0, 0), (.getfield 21, 1, 3), (.putfield 18, 1, 2)] (by decide +kernel) ⟨g_Game_21, ⟨g_Game_18, p_Game_18⟩, trivial⟩ ⟨o1, rfl, o2, ?_⟩
  show Ev (d + 1) M_Game_becomeFlipped 0 0 24 [(2, v0), (2, v1), zJ, zJ] [] kd (zup m v0 2 (m v1 3)) (zqV kd q)
  exact h
set_option maxRecDepth 20000 in
set_option maxHeartbeats 1000000 in
theorem U_Game_becomeFlipped_24 {d : Nat} {kd : ZK} {m : ZM} {q : ZM → Prop} {v0 v1 : Int} (h : (zobj kd v1 1 ∧ zobj kd v0 1 ∧ (Ev (d + 1) M_Game_becomeFlipped 0 0 32 [(2, v0), (2, v1), zJ, zJ] [] kd (zup m v0 3 (m v1 2)) (zqV kd q)))) : Ev (d + 1) M_Game_becomeFlipped 0 0 24 [(2, v0), (2, v1), zJ, zJ] [] kd m (zqV kd q) := by
  obtain ⟨o1, o2, h⟩ := h
  refine EvX.blk (pc' := 32) [(.aload_n 0, 0, 0), (.aload_n 1, 0, 0), (.getfield 18, 1, 2), (.putfield 21, 1, 3)] (by decide +kernel) ⟨g_Game_18, ⟨g_Game_21, p_Game_21⟩, trivial⟩ ⟨o1, rfl, o2, ?_⟩
  show Ev (d + 1) M_Game_becomeFlipped 0 0 32 [(2, v0), (2, v1), zJ, zJ] [] kd (zup m v0 3 (m v1 2)) (zqV kd q)
  exact h
set_option maxRecDepth 20000 in
set_option maxHeartbeats 1000000 in
theorem U_Game_becomeFlipped_32 {d : Nat} {kd : ZK} {m : ZM} {q : ZM → Prop} {v0 v1 : Int} (h : (Ev (d + 1) M_Game_becomeFlipped 0 0 34 [(2, v0), (2, v1), (0, 0), zJ] [] kd m (zqV kd q))) : Ev (d + 1) M_Game_becomeFlipped 0 0 32 [(2, v0), (2, v1), zJ, zJ] [] kd m (zqV kd q) := by
  refine EvX.blk (pc' := 34) [(.iconst 0, 0, 0), (.istore_n 2, 0, 0)] (by decide +kernel) trivial ?_
  show Ev (d + 1) M_Game_becomeFlipped 0 0 34 [(2, v0), (2, v1), (0, 0), zJ] [] kd m (zqV kd q)
  exact h
set_option maxRecDepth 20000 in
set_option maxHeartbeats 1000000 in
theorem U_Game_becomeFlipped_34 {d : Nat} {kd : ZK} {m : ZM} {q : ZM → Prop} {v0 v1 v2 : Int} (h : (zobj kd v0 1 ∧ (((m v0 0) ≤ v2 → q m) ∧ (¬ (m v0 0) ≤ v2 → (Ev (d + 1) M_Game_becomeFlipped 0 0 44 [(2, v0), (2, v1), (0, v2), (0, 0)] [] kd m (zqV kd q)))))) : Ev (d + 1) M_Game_becomeFlipped 0 0 34 [(2, v0), (2, v1), (0, v2), zJ] [] kd m (zqV kd q) := by
  obtain ⟨o1, h⟩ := h
  refine EvX.blk (pc' := 39) [(.iload_n 2, 0, 0), (.aload_n 0, 0, 0), (.getfield 11, 1, 0)] (by decide +kernel) ⟨g_Game_11, trivial⟩ ⟨o1, ?_⟩
  show Ev (d + 1) M_Game_becomeFlipped 0 0 39 [(2, v0), (2, v1), (0, v2), zJ] [(0, m v0 0), (0, v2)] kd m (zqV kd q)
  refine EvX.icmp_ge (off := 54) (tgt := 93) (by decide +kernel) (by decide) (fun hc => ?_) (fun hc => ?_)
  · have h := h.1 hc
    exact EvX.ret (r := zJ) (by decide +kernel) rfl ⟨rfl, rfl, h⟩
  · have h := h.2 hc
    refine EvX.blk (pc' := 44) [(.iconst 0, 0, 0), (.istore_n 3, 0, 0)] (by decide +kernel) trivial ?_
    show Ev (d + 1) M_Game_becomeFlipped 0 0 44 [(2, v0), (2, v1), (0, v2), (0, 0)] [] kd m (zqV kd q)
    exact h
set_option maxRecDepth 20000 in
set_option maxHeartbeats 1000000 in
theorem U_Game_becomeFlipped_44 {d : Nat} {kd : ZK} {m : ZM} {q : ZM → Prop} {v0 v1 v2 v3 : Int} (h : (zobj kd v0 1 ∧ (((m v0 1) ≤ v3 → (Ev (d + 1) M_Game_becomeFlipped 0 0 34 [(2, v0), (2, v1), (0, iw (v2 + 1)), zJ] [] kd m (zqV kd q))) ∧ (¬ (m v0 1) ≤ v3 → (zobj kd v0 1 ∧ (∃ q1, CtI d M_Ap_cellOf [(0, 0), (0, v2), (0, v3)] kd m q1 ∧ ∀ x2 m3, q1 x2 m3 → (zobj kd v1 1 ∧ (∃ q4, CtI d M_Ap_cellOf [(0, 1), (0, v2), (0, v3)] kd m3 q4 ∧ ∀ x5 m6, q4 x5 m6 → (zIn kd (m3 v1 4) 0 x5 ∧ zIn kd (m v0 4) 0 x2 ∧ (zobj kd v0 1 ∧ ∃ q7, CtV d M_Game_flipAnswers [(2, v0), (2, v1), (0, v2), (0, v3)] kd (zup m6 (m v0 4) x2 (m6 (m3 v1 4) x5)) q7 ∧ ∀ m9, q7 m9 → (Ev (d + 1) M_Game_becomeFlipped 0 0 44 [(2, v0), (2, v1), (0, v2), (0, iw (v3 + 1))] [] kd m9 (zqV kd q)))))))))))) : Ev (d + 1) M_Game_becomeFlipped 0 0 44 [(2, v0), (2, v1), (0, v2), (0, v3)] [] kd m (zqV kd q) := by
  obtain ⟨o1, h⟩ := h
  refine EvX.blk (pc' := 49) [(.iload_n 3, 0, 0), (.aload_n 0, 0, 0), (.getfield 15, 1, 1)] (by decide +kernel) ⟨g_Game_15, trivial⟩ ⟨o1, ?_⟩
  show Ev (d + 1) M_Game_becomeFlipped 0 0 49 [(2, v0), (2, v1), (0, v2), (0, v3)] [(0, m v0 1), (0, v3)] kd m (zqV kd q)
  refine EvX.icmp_ge (off := 38) (tgt := 87) (by decide +kernel) (by decide) (fun hc => ?_) (fun hc => ?_)
  · have h := h.1 hc
    refine EvX.blk (pc' := 90) [(.iinc 2 1, 0, 0)] (by decide +kernel) trivial ?_
    show Ev (d + 1) M_Game_becomeFlipped 0 0 90 [(2, v0), (2, v1), (0, iw (v2 + 1)), (0, v3)] [] kd m (zqV kd q)
    refine EvX.goto (off := (-56)) (tgt := 34) (by decide +kernel) (by decide) ?_
    exact EvX.weak (ls2 := [(2, v0), (2, v1), (0, iw (v2 + 1)), zJ]) (zwk_of ⟨Or.inr rfl, Or.inr rfl, Or.inr rfl, Or.inl rfl, trivial⟩) h
  · have h := h.2 hc
    obtain ⟨o1, h⟩ := h
    refine EvX.blk (pc' := 59) [(.aload_n 0, 0, 0), (.getfield 24, 1, 4), (.iconst 0, 0, 0), (.iload_n 2, 0, 0), (.iload_n 3, 0, 0)] (by decide +kernel) ⟨g_Game_24, trivial⟩ ⟨o1, ?_⟩
    show Ev (d + 1) M_Game_becomeFlipped 0 0 59 [(2, v0), (2, v1), (0, v2), (0, v3)] [(0, v3), (0, v2), (0, 0), (2, m v0 4)] kd m (zqV kd q)
    obtain ⟨q1, hq, h⟩ := h
    refine EvX.callS (mc := 0) (ms := 0) (as := [(0, 0), (0, v2), (0, v3)]) (st := [(2, m v0 4)]) (by decide +kernel) l_Game_40 k_Ap_cellOf s_Ap_cellOf a_Ap_cellOf (by decide) (Nat.le_of_ble_eq_true rfl) hq (fun r kd1 m3 hr => ?_)
    obtain ⟨x2, rfl, hk, hr⟩ := hr
    subst kd1
    have h := h x2 m3 hr
    show Ev (d + 1) M_Game_becomeFlipped 0 0 62 [(2, v0), (2, v1), (0, v2), (0, v3)] [(0, x2), (2, m v0 4)] kd m3 (zqV kd q)
    obtain ⟨o1, h⟩ := h
    refine EvX.blk (pc' := 69) [(.aload_n 1, 0, 0), (.getfield 24, 1, 4), (.iconst 1, 0, 0), (.iload_n 2, 0, 0), (.iload_n 3, 0, 0)] (by decide +kernel) ⟨g_Game_24, trivial⟩ ⟨o1, ?_⟩
    show Ev (d + 1) M_Game_becomeFlipped 0 0 69 [(2, v0), (2, v1), (0, v2), (0, v3)] [(0, v3), (0, v2), (0, 1), (2, m3 v1 4), (0, x2), (2, m v0 4)] kd m3 (zqV kd q)
    obtain ⟨q4, hq, h⟩ := h
    refine EvX.callS (mc := 0) (ms := 0) (as := [(0, 1), (0, v2), (0, v3)]) (st := [(2, m3 v1 4), (0, x2), (2, m v0 4)]) (by decide +kernel) l_Game_40 k_Ap_cellOf s_Ap_cellOf a_Ap_cellOf (by decide) (Nat.le_of_ble_eq_true rfl) hq (fun r kd1 m6 hr => ?_)
    obtain ⟨x5, rfl, hk, hr⟩ := hr
    subst kd1
    have h := h x5 m6 hr
    show Ev (d + 1) M_Game_becomeFlipped 0 0 72 [(2, v0), (2, v1), (0, v2), (0, v3)] [(0, x5), (2, m3 v1 4), (0, x2), (2, m v0 4)] kd m6 (zqV kd q)
    obtain ⟨o1, o2, h⟩ := h
    refine EvX.blk (pc' := 78) [(.iaload, 0, 0), (.iastore, 0, 0), (.aload_n 0, 0, 0), (.aload_n 1, 0, 0), (.iload_n 2, 0, 0), (.iload_n 3, 0, 0)] (by decide +kernel) trivial ⟨o1, o2, ?_⟩
    show Ev (d + 1) M_Game_becomeFlipped 0 0 78 [(2, v0), (2, v1), (0, v2), (0, v3)] [(0, v3), (0, v2), (2, v1), (2, v0)] kd (zup m6 (m v0 4) x2 (m6 (m3 v1 4) x5)) (zqV kd q)
    obtain ⟨ov, h⟩ := h
    obtain ⟨q7, hq, h⟩ := h
    refine EvX.callV (c := 1) (mc := 0) (ms := 0) (as := [(2, v1), (0, v2), (0, v3)]) (st := []) (by decide +kernel) l_Game_44 k_Game_flipAnswers v_Game_flipAnswers a_Game_flipAnswers (by decide) (Nat.le_of_ble_eq_true rfl) rfl ov hq (fun r kd1 m9 hr => ?_)
    obtain ⟨rfl, hk, hr⟩ := hr
    subst kd1
    have h := h m9 hr
    show Ev (d + 1) M_Game_becomeFlipped 0 0 81 [(2, v0), (2, v1), (0, v2), (0, v3)] [] kd m9 (zqV kd q)
    refine EvX.blk (pc' := 84) [(.iinc 3 1, 0, 0)] (by decide +kernel) trivial ?_
    show Ev (d + 1) M_Game_becomeFlipped 0 0 84 [(2, v0), (2, v1), (0, v2), (0, iw (v3 + 1))] [] kd m9 (zqV kd q)
    refine EvX.goto (off := (-40)) (tgt := 44) (by decide +kernel) (by decide) ?_
    exact h
set_option maxRecDepth 20000 in
set_option maxHeartbeats 1000000 in
theorem U_Game_start_0 {d : Nat} {kd : ZK} {m : ZM} {q : ZM → Prop} {v0 v1 v2 v3 v4 : Int} (h : (zobj kd v0 1 ∧ (Ev (d + 1) M_Game_start 0 0 5 [(2, v0), zJ, (0, v2), (0, v3), (0, v4), zJ] [] kd (zup m v0 0 v1) (zqV kd q)))) : Ev (d + 1) M_Game_start 0 0 0 [(2, v0), (0, v1), (0, v2), (0, v3), (0, v4), zJ] [] kd m (zqV kd q) := by
  obtain ⟨o1, h⟩ := h
  refine EvX.blk (pc' := 5) [(.aload_n 0, 0, 0), (.iload_n 1, 0, 0), (.putfield 11, 1, 0)] (by decide +kernel) ⟨⟨g_Game_11, p_Game_11⟩, trivial⟩ ⟨rfl, o1, ?_⟩
  show Ev (d + 1) M_Game_start 0 0 5 [(2, v0), (0, v1), (0, v2), (0, v3), (0, v4), zJ] [] kd (zup m v0 0 v1) (zqV kd q)
  exact EvX.weak (ls2 := [(2, v0), zJ, (0, v2), (0, v3), (0, v4), zJ]) (zwk_of ⟨Or.inr rfl, Or.inl rfl, Or.inr rfl, Or.inr rfl, Or.inr rfl, Or.inl rfl, trivial⟩) h
theorem US_Game_start {d : Nat} {kd : ZK} {m : ZM} {q : ZM → Prop} {v0 v1 v2 v3 v4 : Int} (h : (zobj kd v0 1 ∧ (Ev (d + 1) M_Game_start 0 0 5 [(2, v0), zJ, (0, v2), (0, v3), (0, v4), zJ] [] kd (zup m v0 0 v1) (zqV kd q)))) : CtV (d + 1) M_Game_start [(2, v0), (0, v1), (0, v2), (0, v3), (0, v4)] kd m q :=
  Ct.start k_Game_start (Nat.le_of_ble_eq_true rfl) ⟨0, Or.inl ⟨rfl, rfl⟩⟩ (U_Game_start_0 h)
set_option maxRecDepth 20000 in
set_option maxHeartbeats 1000000 in
theorem U_Game_start_5 {d : Nat} {kd : ZK} {m : ZM} {q : ZM → Prop} {v0 v2 v3 v4 : Int} (h : (zobj kd v0 1 ∧ (Ev (d + 1) M_Game_start 0 0 10 [(2, v0), zJ, zJ, (0, v3), (0, v4), zJ] [] kd (zup m v0 1 v2) (zqV kd q)))) : Ev (d + 1) M_Game_start 0 0 5 [(2, v0), zJ, (0, v2), (0, v3), (0, v4), zJ] [] kd m (zqV kd q) := by
  obtain ⟨o1, h⟩ := h
  refine EvX.blk (pc' := 10) [(.aload_n 0, 0, 0), (.iload_n 2, 0, 0), (.putfield 15, 1, 1)] (by decide +kernel) ⟨⟨g_Game_15, p_Game_15⟩, trivial⟩ ⟨rfl, o1, ?_⟩
  show Ev (d + 1) M_Game_start 0 0 10 [(2, v0), zJ, (0, v2), (0, v3), (0, v4), zJ] [] kd (zup m v0 1 v2) (zqV kd q)
  exact EvX.weak (ls2 := [(2, v0), zJ, zJ, (0, v3), (0, v4), zJ]) (zwk_of ⟨Or.inr rfl, Or.inl rfl, Or.inl rfl, Or.inr rfl, Or.inr rfl, Or.inl rfl, trivial⟩) h
set_option maxRecDepth 20000 in
set_option maxHeartbeats 1000000 in
theorem U_Game_start_10 {d : Nat} {kd : ZK} {m : ZM} {q : ZM → Prop} {v0 v3 v4 : Int} (h : (zobj kd v0 1 ∧ (Ev (d + 1) M_Game_start 0 0 15 [(2, v0), zJ, zJ, zJ, (0, v4), zJ] [] kd (zup m v0 2 v3) (zqV kd q)))) : Ev (d + 1) M_Game_start 0 0 10 [(2, v0), zJ, zJ, (0, v3), (0, v4), zJ] [] kd m (zqV kd q) := by
  obtain ⟨o1, h⟩ := h
  refine EvX.blk (pc' := 15) [(.aload_n 0, 0, 0), (.iload_n 3, 0, 0), (.putfield 18, 1, 2)] (by decide +kernel) ⟨⟨g_Game_18, p_Game_18⟩, trivial⟩ ⟨rfl, o1, ?_⟩
  show Ev (d + 1) M_Game_start 0 0 15 [(2, v0), zJ, zJ, (0, v3), (0, v4), zJ] [] kd (zup m v0 2 v3) (zqV kd q)
  exact EvX.weak (ls2 := [(2, v0), zJ, zJ, zJ, (0, v4), zJ]) (zwk_of ⟨Or.inr rfl, Or.inl rfl, Or.inl rfl, Or.inl rfl, Or.inr rfl, Or.inl rfl, trivial⟩) h
set_option maxRecDepth 20000 in
set_option maxHeartbeats 1000000 in
theorem U_Game_start_15 {d : Nat} {kd : ZK} {m : ZM} {q : ZM → Prop} {v0 v4 : Int} (h : (zobj kd v0 1 ∧ (Ev (d + 1) M_Game_start 0 0 21 [(2, v0), zJ, zJ, zJ, zJ, zJ] [] kd (zup m v0 3 v4) (zqV kd q)))) : Ev (d + 1) M_Game_start 0 0 15 [(2, v0), zJ, zJ, zJ, (0, v4), zJ] [] kd m (zqV kd q) := by
  obtain ⟨o1, h⟩ := h
  refine EvX.blk (pc' := 21) [(.aload_n 0, 0, 0), (.iload 4, 0, 0), (.putfield 21, 1, 3)] (by decide +kernel) ⟨⟨g_Game_21, p_Game_21⟩, trivial⟩ ⟨rfl, o1, ?_⟩
  show Ev (d + 1) M_Game_start 0 0 21 [(2, v0), zJ, zJ, zJ, (0, v4), zJ] [] kd (zup m v0 3 v4) (zqV kd q)
  exact EvX.weak (ls2 := [(2, v0), zJ, zJ, zJ, zJ, zJ]) (zwk_of ⟨Or.inr rfl, Or.inl rfl, Or.inl rfl, Or.inl rfl, Or.inl rfl, Or.inl rfl, trivial⟩) h
set_option maxRecDepth 20000 in
set_option maxHeartbeats 1000000 in
theorem U_Game_start_21 {d : Nat} {kd : ZK} {m : ZM} {q : ZM → Prop} {v0 : Int} (h : (Ev (d + 1) M_Game_start 0 0 24 [(2, v0), zJ, zJ, zJ, zJ, (0, 0)] [] kd m (zqV kd q))) : Ev (d + 1) M_Game_start 0 0 21 [(2, v0), zJ, zJ, zJ, zJ, zJ] [] kd m (zqV kd q) := by
  refine EvX.blk (pc' := 24) [(.iconst 0, 0, 0), (.istore 5, 0, 0)] (by decide +kernel) trivial ?_
  show Ev (d + 1) M_Game_start 0 0 24 [(2, v0), zJ, zJ, zJ, zJ, (0, 0)] [] kd m (zqV kd q)
  exact h
set_option maxRecDepth 20000 in
set_option maxHeartbeats 1000000 in
theorem U_Game_start_24 {d : Nat} {kd : ZK} {m : ZM} {q : ZM → Prop} {v0 v5 : Int} (h : ((25 ≤ v5 → (Ev (d + 1) M_Game_start 0 0 48 [(2, v0), zJ, zJ, zJ, zJ, (0, 0)] [] kd m (zqV kd q))) ∧ (¬ 25 ≤ v5 → (zobj kd v0 1 ∧ zIn kd (m v0 4) 0 v5 ∧ (Ev (d + 1) M_Game_start 0 0 24 [(2, v0), zJ, zJ, zJ, zJ, (0, iw (v5 + 1))] [] kd (zup m (m v0 4) v5 1) (zqV kd q)))))) : Ev (d + 1) M_Game_start 0 0 24 [(2, v0), zJ, zJ, zJ, zJ, (0, v5)] [] kd m (zqV kd q) := by
  refine EvX.blk (pc' := 28) [(.iload 5, 0, 0), (.bipush 25, 0, 0)] (by decide +kernel) trivial ?_
  show Ev (d + 1) M_Game_start 0 0 28 [(2, v0), zJ, zJ, zJ, zJ, (0, v5)] [(0, 25), (0, v5)] kd m (zqV kd q)
  refine EvX.icmp_ge (off := 17) (tgt := 45) (by decide +kernel) (by decide) (fun hc => ?_) (fun hc => ?_)
  · have h := h.1 hc
    refine EvX.blk (pc' := 48) [(.iconst 0, 0, 0), (.istore 5, 0, 0)] (by decide +kernel) trivial ?_
    show Ev (d + 1) M_Game_start 0 0 48 [(2, v0), zJ, zJ, zJ, zJ, (0, 0)] [] kd m (zqV kd q)
    exact h
  · have h := h.2 hc
    obtain ⟨o1, o2, h⟩ := h
    refine EvX.blk (pc' := 42) [(.aload_n 0, 0, 0), (.getfield 24, 1, 4), (.iload 5, 0, 0), (.iconst 1, 0, 0), (.iastore, 0, 0), (.iinc 5 1, 0, 0)] (by decide +kernel) ⟨g_Game_24, trivial⟩ ⟨o1, o2, ?_⟩
    show Ev (d + 1) M_Game_start 0 0 42 [(2, v0), zJ, zJ, zJ, zJ, (0, iw (v5 + 1))] [] kd (zup m (m v0 4) v5 1) (zqV kd q)
    refine EvX.goto (off := (-18)) (tgt := 24) (by decide +kernel) (by decide) ?_
    exact h
set_option maxRecDepth 20000 in
set_option maxHeartbeats 1000000 in
theorem U_Game_start_48 {d : Nat} {kd : ZK} {m : ZM} {q : ZM → Prop} {v0 v5 : Int} (h : ((400 ≤ v5 → q m) ∧ (¬ 400 ≤ v5 → (zobj kd v0 1 ∧ zIn kd (m v0 5) 0 v5 ∧ zobj kd v0 1 ∧ zIn kd ((zup m (m v0 5) v5 0) v0 6) 0 v5 ∧ (Ev (d + 1) M_Game_start 0 0 48 [(2, v0), zJ, zJ, zJ, zJ, (0, iw (v5 + 1))] [] kd (zup (zup m (m v0 5) v5 0) ((zup m (m v0 5) v5 0) v0 6) v5 0) (zqV kd q)))))) : Ev (d + 1) M_Game_start 0 0 48 [(2, v0), zJ, zJ, zJ, zJ, (0, v5)] [] kd m (zqV kd q) := by
  refine EvX.blk (pc' := 53) [(.iload 5, 0, 0), (.sipush 400, 0, 0)] (by decide +kernel) trivial ?_
  show Ev (d + 1) M_Game_start 0 0 53 [(2, v0), zJ, zJ, zJ, zJ, (0, v5)] [(0, 400), (0, v5)] kd m (zqV kd q)
  refine EvX.icmp_ge (off := 25) (tgt := 78) (by decide +kernel) (by decide) (fun hc => ?_) (fun hc => ?_)
  · have h := h.1 hc
    exact EvX.ret (r := zJ) (by decide +kernel) rfl ⟨rfl, rfl, h⟩
  · have h := h.2 hc
    obtain ⟨o1, o2, o3, o4, h⟩ := h
    refine EvX.blk (pc' := 75) [(.aload_n 0, 0, 0), (.getfield 28, 1, 5), (.iload 5, 0, 0), (.iconst 0, 0, 0), (.iastore, 0, 0), (.aload_n 0, 0, 0), (.getfield 31, 1, 6), (.iload 5, 0, 0), (.iconst 0, 0, 0), (.iastore, 0, 0), (.iinc 5 1, 0, 0)] (by decide +kernel) ⟨g_Game_28, g_Game_31, trivial⟩ ⟨o1, o2, o3, o4, ?_⟩
    show Ev (d + 1) M_Game_start 0 0 75 [(2, v0), zJ, zJ, zJ, zJ, (0, iw (v5 + 1))] [] kd (zup (zup m (m v0 5) v5 0) ((zup m (m v0 5) v5 0) v0 6) v5 0) (zqV kd q)
    refine EvX.goto (off := (-27)) (tgt := 48) (by decide +kernel) (by decide) ?_
    exact h
