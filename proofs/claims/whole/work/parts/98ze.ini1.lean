/-! CONSTRUCTORS, first: the cells; new objects; a game -/
def kdF : ZK := [(17, 10), (16, 4), (0, 400), (12, 3), (3, 10), (11, 7), (0, 25), (0, 400), (0, 400), (11, 7), (0, 25), (0, 400), (0, 400), (11, 7), (0, 25), (0, 400), (0, 400), (11, 7), (0, 25), (0, 400), (0, 400), (11, 7), (0, 25), (0, 400), (0, 400), (11, 7), (0, 25), (0, 400), (0, 400), (11, 7), (0, 25), (0, 400), (0, 400), (11, 7), (0, 25), (0, 400), (0, 400), (11, 7), (0, 25), (0, 400), (0, 400), (11, 7), (0, 25), (0, 400), (0, 400), (15, 12), (0, 25600), (0, 2000), (0, 2000), (1, 64), (0, 16), (0, 5), (10, 3), (0, 5), (0, 5), (0, 5), (14, 3), (0, 10), (0, 25), (0, 5), (13, 3), (3, 2), (11, 7), (0, 25), (0, 400), (0, 400), (11, 7), (0, 25), (0, 400), (0, 400), (11, 7), (0, 25), (0, 400), (0, 400), (11, 7), (0, 25), (0, 400), (0, 400), (18, 26), (0, 829), (0, 829), (0, 829), (0, 8290), (0, 1658), (1, 2), (2, 400), (0, 5), (0, 5), (0, 4), (0, 10), (0, 25600), (0, 4), (0, 400), (0, 5), (0, 5)]
def kT (n : Nat) : ZK := kdF.take n
theorem kT_len {n : Nat} (h : n ≤ 95) : (kT n).length = n := by
  rw [kT, List.length_take, show kdF.length = 95 from rfl]
  omega
theorem kS {n : Nat} {q : Nat × Nat} (h : kdF[n]? = some q) : kT n ++ [q] = kT (n + 1) := by
  rw [kT, kT, List.take_add_one, h]
  rfl
theorem kG {n : Nat} (h : kdF[n]? = some (11, 7) ∧ kdF[n + 1]? = some (0, 25) ∧ kdF[n + 2]? = some (0, 400) ∧ kdF[n + 3]? = some (0, 400)) : kT n ++ [(11, 7), (0, 25), (0, 400), (0, 400)] = kT (n + 4) := by
  rw [← kS (n := n + 3) h.2.2.2, ← kS (n := n + 2) h.2.2.1, ← kS (n := n + 1) h.2.1, ← kS h.1]
  simp only [List.append_assoc, List.cons_append, List.nil_append]
theorem kT_at {n a : Nat} (h : a < n) : (kT n)[a]? = kdF[a]? := by
  rw [kT, List.getElem?_take, if_pos h]
theorem kTo {n : Nat} {a : Int} {c : Nat} (h : zobj kdF a c) (k : a.toNat < n) : zobj (kT n) a c := ⟨h.1, by rw [kT_at k]; exact h.2⟩
theorem kTa {n : Nat} {a : Int} {t s : Nat} (h : zarr kdF a t s) (k : a.toNat < n) : zarr (kT n) a t s := ⟨h.1, by rw [kT_at k]; exact h.2⟩
theorem aC_int : Cond.arrayClass (newarray.typeOf ArrayType.int) ∈ zWs := zmem1 (i := 44) rfl rfl
theorem aC_boolean : Cond.arrayClass (newarray.typeOf ArrayType.boolean) ∈ zWs := zmem1 (i := 171) rfl rfl
theorem aC_byte : Cond.arrayClass (newarray.typeOf ArrayType.byte) ∈ zWs := zmem2 (i := 161) rfl rfl
theorem aC_Game : Cond.classLink "ApartGames" 51 "ApartGames$Game" ∈ zWs ∧ Cond.classLink "ApartGames$Past" 7 "ApartGames$Game" ∈ zWs := ⟨zmem1 (i := 221) rfl rfl, zmem1 (i := 51) rfl rfl⟩
theorem tg_Duo : ∀ k, k < 3 → (ztag 0 k = 0 ∧ t_Duo k = .int) ∨ (ztag 0 k = 2 ∧ ((∃ t, t_Duo k = .array t) ∨ ∃ t, t_Duo k = .object t)) := by
  intro k hk
  rcases (show k = 0 ∨ k = 1 ∨ k = 2 by omega) with rfl | rfl | rfl
  all_goals first | exact Or.inl ⟨rfl, rfl⟩ | exact Or.inr ⟨rfl, Or.inl ⟨_, rfl⟩⟩ | exact Or.inr ⟨rfl, Or.inr ⟨_, rfl⟩⟩
theorem tg_Game : ∀ k, k < 7 → (ztag 1 k = 0 ∧ t_Game k = .int) ∨ (ztag 1 k = 2 ∧ ((∃ t, t_Game k = .array t) ∨ ∃ t, t_Game k = .object t)) := by
  intro k hk
  rcases (show k = 0 ∨ k = 1 ∨ k = 2 ∨ k = 3 ∨ k = 4 ∨ k = 5 ∨ k = 6 by omega) with rfl | rfl | rfl | rfl | rfl | rfl | rfl
  all_goals first | exact Or.inl ⟨rfl, rfl⟩ | exact Or.inr ⟨rfl, Or.inl ⟨_, rfl⟩⟩ | exact Or.inr ⟨rfl, Or.inr ⟨_, rfl⟩⟩
theorem tg_Past : ∀ k, k < 3 → (ztag 2 k = 0 ∧ t_Past k = .int) ∨ (ztag 2 k = 2 ∧ ((∃ t, t_Past k = .array t) ∨ ∃ t, t_Past k = .object t)) := by
  intro k hk
  rcases (show k = 0 ∨ k = 1 ∨ k = 2 by omega) with rfl | rfl | rfl
  all_goals first | exact Or.inl ⟨rfl, rfl⟩ | exact Or.inr ⟨rfl, Or.inl ⟨_, rfl⟩⟩ | exact Or.inr ⟨rfl, Or.inr ⟨_, rfl⟩⟩
theorem tg_Scribe : ∀ k, k < 3 → (ztag 3 k = 0 ∧ t_Scribe k = .int) ∨ (ztag 3 k = 2 ∧ ((∃ t, t_Scribe k = .array t) ∨ ∃ t, t_Scribe k = .object t)) := by
  intro k hk
  rcases (show k = 0 ∨ k = 1 ∨ k = 2 by omega) with rfl | rfl | rfl
  all_goals first | exact Or.inl ⟨rfl, rfl⟩ | exact Or.inr ⟨rfl, Or.inl ⟨_, rfl⟩⟩ | exact Or.inr ⟨rfl, Or.inr ⟨_, rfl⟩⟩
theorem tg_Shape : ∀ k, k < 3 → (ztag 4 k = 0 ∧ t_Shape k = .int) ∨ (ztag 4 k = 2 ∧ ((∃ t, t_Shape k = .array t) ∨ ∃ t, t_Shape k = .object t)) := by
  intro k hk
  rcases (show k = 0 ∨ k = 1 ∨ k = 2 by omega) with rfl | rfl | rfl
  all_goals first | exact Or.inl ⟨rfl, rfl⟩ | exact Or.inr ⟨rfl, Or.inl ⟨_, rfl⟩⟩ | exact Or.inr ⟨rfl, Or.inr ⟨_, rfl⟩⟩
theorem tg_Table : ∀ k, k < 12 → (ztag 5 k = 0 ∧ t_Table k = .int) ∨ (ztag 5 k = 2 ∧ ((∃ t, t_Table k = .array t) ∨ ∃ t, t_Table k = .object t)) := by
  intro k hk
  rcases (show k = 0 ∨ k = 1 ∨ k = 2 ∨ k = 3 ∨ k = 4 ∨ k = 5 ∨ k = 6 ∨ k = 7 ∨ k = 8 ∨ k = 9 ∨ k = 10 ∨ k = 11 by omega) with rfl | rfl | rfl | rfl | rfl | rfl | rfl | rfl | rfl | rfl | rfl | rfl
  all_goals first | exact Or.inl ⟨rfl, rfl⟩ | exact Or.inr ⟨rfl, Or.inl ⟨_, rfl⟩⟩ | exact Or.inr ⟨rfl, Or.inr ⟨_, rfl⟩⟩
theorem tg_Tape : ∀ k, k < 4 → (ztag 6 k = 0 ∧ t_Tape k = .int) ∨ (ztag 6 k = 2 ∧ ((∃ t, t_Tape k = .array t) ∨ ∃ t, t_Tape k = .object t)) := by
  intro k hk
  rcases (show k = 0 ∨ k = 1 ∨ k = 2 ∨ k = 3 by omega) with rfl | rfl | rfl | rfl
  all_goals first | exact Or.inl ⟨rfl, rfl⟩ | exact Or.inr ⟨rfl, Or.inl ⟨_, rfl⟩⟩ | exact Or.inr ⟨rfl, Or.inr ⟨_, rfl⟩⟩
theorem tg_Ap : ∀ k, k < 10 → (ztag 7 k = 0 ∧ t_Ap k = .int) ∨ (ztag 7 k = 2 ∧ ((∃ t, t_Ap k = .array t) ∨ ∃ t, t_Ap k = .object t)) := by
  intro k hk
  rcases (show k = 0 ∨ k = 1 ∨ k = 2 ∨ k = 3 ∨ k = 4 ∨ k = 5 ∨ k = 6 ∨ k = 7 ∨ k = 8 ∨ k = 9 by omega) with rfl | rfl | rfl | rfl | rfl | rfl | rfl | rfl | rfl | rfl
  all_goals first | exact Or.inl ⟨rfl, rfl⟩ | exact Or.inr ⟨rfl, Or.inl ⟨_, rfl⟩⟩ | exact Or.inr ⟨rfl, Or.inr ⟨_, rfl⟩⟩
theorem tg_Mo : ∀ k, k < 26 → (ztag 8 k = 0 ∧ t_Mo k = .int) ∨ (ztag 8 k = 2 ∧ ((∃ t, t_Mo k = .array t) ∨ ∃ t, t_Mo k = .object t)) := by
  intro k hk
  rcases (show k = 0 ∨ k = 1 ∨ k = 2 ∨ k = 3 ∨ k = 4 ∨ k = 5 ∨ k = 6 ∨ k = 7 ∨ k = 8 ∨ k = 9 ∨ k = 10 ∨ k = 11 ∨ k = 12 ∨ k = 13 ∨ k = 14 ∨ k = 15 ∨ k = 16 ∨ k = 17 ∨ k = 18 ∨ k = 19 ∨ k = 20 ∨ k = 21 ∨ k = 22 ∨ k = 23 ∨ k = 24 ∨ k = 25 by omega) with rfl | rfl | rfl | rfl | rfl | rfl | rfl | rfl | rfl | rfl | rfl | rfl | rfl | rfl | rfl | rfl | rfl | rfl | rfl | rfl | rfl | rfl | rfl | rfl | rfl | rfl
  all_goals first | exact Or.inl ⟨rfl, rfl⟩ | exact Or.inr ⟨rfl, Or.inl ⟨_, rfl⟩⟩ | exact Or.inr ⟨rfl, Or.inr ⟨_, rfl⟩⟩
theorem nw_Ap_7 {M : ZMeth} (h : M.1.cls = "ApartGames") : ZNew M 7 6 := ⟨R_Tape, T_Tape, 4, t_Tape, rfl, in_Tape, rfl, t_Tape_ok, by rw [h]; exact zmem1 (i := 24) rfl rfl, zmem1 (i := 25) rfl rfl, zmem1 (i := 2) rfl rfl, tg_Tape⟩
theorem nw_Ap_16 {M : ZMeth} (h : M.1.cls = "ApartGames") : ZNew M 16 2 := ⟨R_Past, T_Past, 3, t_Past, rfl, in_Past, rfl, t_Past_ok, by rw [h]; exact zmem1 (i := 45) rfl rfl, zmem1 (i := 46) rfl rfl, zmem1 (i := 3) rfl rfl, tg_Past⟩
theorem nw_Ap_23 {M : ZMeth} (h : M.1.cls = "ApartGames") : ZNew M 23 5 := ⟨R_Table, T_Table, 12, t_Table, rfl, in_Table, rfl, t_Table_ok, by rw [h]; exact zmem1 (i := 128) rfl rfl, zmem1 (i := 129) rfl rfl, zmem1 (i := 5) rfl rfl, tg_Table⟩
theorem nw_Ap_30 {M : ZMeth} (h : M.1.cls = "ApartGames") : ZNew M 30 0 := ⟨R_Duo, T_Duo, 3, t_Duo, rfl, in_Duo, rfl, t_Duo_ok, by rw [h]; exact zmem1 (i := 172) rfl rfl, zmem1 (i := 173) rfl rfl, zmem1 (i := 6) rfl rfl, tg_Duo⟩
theorem nw_Ap_37 {M : ZMeth} (h : M.1.cls = "ApartGames") : ZNew M 37 4 := ⟨R_Shape, T_Shape, 3, t_Shape, rfl, in_Shape, rfl, t_Shape_ok, by rw [h]; exact zmem1 (i := 188) rfl rfl, zmem1 (i := 189) rfl rfl, zmem1 (i := 7) rfl rfl, tg_Shape⟩
theorem nw_Ap_44 {M : ZMeth} (h : M.1.cls = "ApartGames") : ZNew M 44 3 := ⟨R_Scribe, T_Scribe, 3, t_Scribe, rfl, in_Scribe, rfl, t_Scribe_ok, by rw [h]; exact zmem1 (i := 204) rfl rfl, zmem1 (i := 205) rfl rfl, zmem1 (i := 8) rfl rfl, tg_Scribe⟩
theorem nw_Ap_51 {M : ZMeth} (h : M.1.cls = "ApartGames") : ZNew M 51 1 := ⟨R_Game, T_Game, 7, t_Game, rfl, in_Game, rfl, t_Game_ok, by rw [h]; exact zmem1 (i := 221) rfl rfl, zmem1 (i := 53) rfl rfl, zmem1 (i := 4) rfl rfl, tg_Game⟩
theorem nw_Past_7 {M : ZMeth} (h : M.1.cls = "ApartGames$Past") : ZNew M 7 1 := ⟨R_Game, T_Game, 7, t_Game, rfl, in_Game, rfl, t_Game_ok, by rw [h]; exact zmem1 (i := 51) rfl rfl, zmem1 (i := 53) rfl rfl, zmem1 (i := 4) rfl rfl, tg_Game⟩
theorem nw_Law_7 {M : ZMeth} (h : M.1.cls = "ApartGamesLaw") : ZNew M 7 7 := ⟨R_Ap, T_Ap, 10, t_Ap, rfl, in_Ap, rfl, t_Ap_ok, by rw [h]; exact zmem1 (i := 16) rfl rfl, zmem1 (i := 17) rfl rfl, zmem1 (i := 1) rfl rfl, tg_Ap⟩
theorem nw_Law_10 {M : ZMeth} (h : M.1.cls = "ApartGamesLaw") : ZNew M 10 8 := ⟨R_Mo, T_Mo, 26, t_Mo, rfl, in_Mo, rfl, t_Mo_ok, by rw [h]; exact zmem5 (i := 106) rfl rfl, zmem5 (i := 107) rfl rfl, zmem1 (i := 9) rfl rfl, tg_Mo⟩
/-- a new game at n -/
def NG (m : ZM) (n : Int) : Prop := (m n 0 = 0 ∧ m n 1 = 0 ∧ m n 2 = 0 ∧ m n 3 = 0) ∧ m n 4 = n + 1 ∧ m n 5 = n + 2 ∧ m n 6 = n + 3
theorem zobj_app {kd l : ZK} {a : Int} {c : Nat} (h : zobj kd a c) : zobj (kd ++ l) a c := ⟨h.1, by rw [List.getElem?_append_left (List.getElem?_eq_some_iff.mp h.2).1]; exact h.2⟩
theorem c_Game_init {d : Nat} {kd : ZK} {m : ZM} {g : Int} (ho0 : zobj kd g 1) (hg : g + 1 = kd.length) (hl : kd.length < 900) : Ct (d + 1) M_Game_init 3 825 [(2, g)] kd m (fun r kd' m' => r = zJ ∧ kd' = kd ++ [(0, 25), (0, 400), (0, 400)] ∧ NG m' g ∧ ∀ c, c < g → m' c = m c) := by
  have hg0 := ho0.1
  have ho1 : zobj (kd ++ [(0, 25)]) g 1 := zobj_app ho0
  have ho2 : zobj (kd ++ [(0, 25), (0, 400)]) g 1 := zobj_app ho0
  have ho3 : zobj (kd ++ [(0, 25), (0, 400), (0, 400)]) g 1 := zobj_app ho0
  have e0_q : ((kd.length : Nat) : Int) = g + 1 := hg.symm
  have e1_q : (((kd ++ [(0, 25)]).length : Nat) : Int) = g + 2 := by rw [List.length_append]; show ((kd.length + 1 : Nat) : Int) = g + 2; omega
  have e2_q : (((kd ++ [(0, 25), (0, 400)]).length : Nat) : Int) = g + 3 := by rw [List.length_append]; show ((kd.length + 2 : Nat) : Int) = g + 3; omega
  refine Ct.start k_Game_init (Nat.le_of_ble_eq_true rfl) ⟨0, Or.inl ⟨rfl, rfl⟩⟩ ?_
  show EvX none (d + 1) M_Game_init 3 825 0 [(2, g)] [] kd m _
  refine EvX.blk (pc' := 1) [(.aload_n 0, 0, 0)] (by decide +kernel) trivial ?_
  show EvX none (d + 1) M_Game_init 3 825 1 [(2, g)] [(2, g)] kd m _
  refine EvX.objInit (by decide +kernel) y_Game_5 y_obj1 y_obj2 hg0 (Nat.le_of_ble_eq_true rfl) ?_
  show EvX none (d + 1) M_Game_init 3 825 4 [(2, g)] [] kd m _
  refine EvX.blk (pc' := 27) [(.aload_n 0, 0, 0), (.iconst 0, 0, 0), (.putfield 11, 1, 0), (.aload_n 0, 0, 0), (.iconst 0, 0, 0), (.putfield 15, 1, 1), (.aload_n 0, 0, 0), (.iconst 0, 0, 0), (.putfield 18, 1, 2), (.aload_n 0, 0, 0), (.iconst 0, 0, 0), (.putfield 21, 1, 3), (.aload_n 0, 0, 0), (.bipush 25, 0, 0)] (by decide +kernel) ⟨⟨g_Game_11, p_Game_11⟩, ⟨g_Game_15, p_Game_15⟩, ⟨g_Game_18, p_Game_18⟩, ⟨g_Game_21, p_Game_21⟩, trivial⟩ ⟨rfl, ho0, rfl, ho0, rfl, ho0, rfl, ho0, ?_⟩
  show EvX none (d + 1) M_Game_init 3 825 27 [(2, g)] [(0, 25), (2, g)] kd (zup (zup (zup (zup m g 0 0) g 1 0) g 2 0) g 3 0) _
  refine EvX.newa (atype := .int) (t := 0) (N := 25) (by decide +kernel) aC_int rfl (by decide) (by decide) (by (try simp only [List.length_append, List.length_cons, List.length_nil]); omega) ?_
  rw [e0_q]
  show EvX none (d + 1) M_Game_init 2 800 29 [(2, g)] [(2, g + 1), (2, g)] (kd ++ [(0, 25)]) (zrow (zup (zup (zup (zup m g 0 0) g 1 0) g 2 0) g 3 0) (g + 1) (fun _ => 0)) _
  refine EvX.blk (pc' := 36) [(.putfield 24, 1, 4), (.aload_n 0, 0, 0), (.sipush 400, 0, 0)] (by decide +kernel) ⟨⟨g_Game_24, p_Game_24⟩, trivial⟩ ⟨rfl, ho1, ?_⟩
  show EvX none (d + 1) M_Game_init 2 800 36 [(2, g)] [(0, 400), (2, g)] (kd ++ [(0, 25)]) (zup (zrow (zup (zup (zup (zup m g 0 0) g 1 0) g 2 0) g 3 0) (g + 1) (fun _ => 0)) g 4 (g + 1)) _
  refine EvX.newa (atype := .int) (t := 0) (N := 400) (by decide +kernel) aC_int rfl (by decide) (by decide) (by (try simp only [List.length_append, List.length_cons, List.length_nil]); omega) ?_
  rw [e1_q, List.append_assoc]
  show EvX none (d + 1) M_Game_init 1 400 38 [(2, g)] [(2, g + 2), (2, g)] (kd ++ [(0, 25), (0, 400)]) (zrow (zup (zrow (zup (zup (zup (zup m g 0 0) g 1 0) g 2 0) g 3 0) (g + 1) (fun _ => 0)) g 4 (g + 1)) (g + 2) (fun _ => 0)) _
  refine EvX.blk (pc' := 45) [(.putfield 28, 1, 5), (.aload_n 0, 0, 0), (.sipush 400, 0, 0)] (by decide +kernel) ⟨⟨g_Game_28, p_Game_28⟩, trivial⟩ ⟨rfl, ho2, ?_⟩
  show EvX none (d + 1) M_Game_init 1 400 45 [(2, g)] [(0, 400), (2, g)] (kd ++ [(0, 25), (0, 400)]) (zup (zrow (zup (zrow (zup (zup (zup (zup m g 0 0) g 1 0) g 2 0) g 3 0) (g + 1) (fun _ => 0)) g 4 (g + 1)) (g + 2) (fun _ => 0)) g 5 (g + 2)) _
  refine EvX.newa (atype := .int) (t := 0) (N := 400) (by decide +kernel) aC_int rfl (by decide) (by decide) (by (try simp only [List.length_append, List.length_cons, List.length_nil]); omega) ?_
  rw [e2_q, List.append_assoc]
  show EvX none (d + 1) M_Game_init 0 0 47 [(2, g)] [(2, g + 3), (2, g)] (kd ++ [(0, 25), (0, 400), (0, 400)]) (zrow (zup (zrow (zup (zrow (zup (zup (zup (zup m g 0 0) g 1 0) g 2 0) g 3 0) (g + 1) (fun _ => 0)) g 4 (g + 1)) (g + 2) (fun _ => 0)) g 5 (g + 2)) (g + 3) (fun _ => 0)) _
  refine EvX.blk (pc' := 50) [(.putfield 31, 1, 6)] (by decide +kernel) ⟨⟨g_Game_31, p_Game_31⟩, trivial⟩ ⟨rfl, ho3, ?_⟩
  show EvX none (d + 1) M_Game_init 0 0 50 [(2, g)] [] (kd ++ [(0, 25), (0, 400), (0, 400)]) (zup (zrow (zup (zrow (zup (zrow (zup (zup (zup (zup m g 0 0) g 1 0) g 2 0) g 3 0) (g + 1) (fun _ => 0)) g 4 (g + 1)) (g + 2) (fun _ => 0)) g 5 (g + 2)) (g + 3) (fun _ => 0)) g 6 (g + 3)) _
  refine EvX.ret (r := zJ) (by decide +kernel) rfl ⟨rfl, rfl, ?_⟩
  refine ⟨⟨⟨?_, ?_, ?_, ?_⟩, ?_, ?_, ?_⟩, fun c hc_q => funext fun j => ?_⟩
  all_goals simp (disch := omega) only [zup, zrow, if_neg, if_pos, true_and, and_self, if_true]
  all_goals first | rfl | (simp [show ¬ (g = g + 1) by omega, show ¬ (g = g + 2) by omega, show ¬ (g = g + 3) by omega]; done) | (simp [show ¬ (c = g) by omega, show ¬ (c = g + 1) by omega, show ¬ (c = g + 2) by omega, show ¬ (c = g + 3) by omega]; done)
/-- new, dup, the constructor of Game -/
theorem EvX.newGame {X : Option (Nat × (Nat → Int))} {d : Nat} {M : ZMeth} {mc ms pc : Nat} {ls st : List ZV} {kd : ZK} {m : ZM} {Q : ZQ} {i1_q i2_q : Nat} (h1 : decode M.2.1 pc = .ok (.new i1_q, 3)) (h2 : decode M.2.1 (pc + 3) = .ok (.dup, 1)) (h3 : decode M.2.1 (pc + 3 + 1) = .ok (.invokespecial i2_q, 3)) (hn : ZNew M i1_q 1) (hlk : ZLk M.1.cls i2_q M_Game_init) (hs : (st.map zcat).sum ≤ 7) (hk : kd.length < 800)
    (kk : ∀ m' : ZM, (∀ c, c < (kd.length : Int) → m' c = m c) → NG m' kd.length → EvX X (d + 2) M mc ms (pc + 3 + 1 + 3) ls ((2, (kd.length : Int)) :: st) (kd ++ [(11, 7), (0, 25), (0, 400), (0, 400)]) m' Q) : EvX X (d + 2) M (mc + 3 + 1) (ms + 825 + 7) pc ls st kd m Q := by
  refine EvX.new h1 hn (by omega) ?_
  refine EvX.dup h2 (show (2 : Nat) ≠ 1 by decide) ?_
  have hz : (zTags.getD 1 []).length = 7 := rfl
  rw [hz]
  have hlen : (((kd ++ [(1 + 10, 7)]).length : Nat) : Int) = kd.length + 1 := by rw [List.length_append]; rfl
  have ho : zobj (kd ++ [(1 + 10, 7)]) kd.length 1 := ⟨by omega, by
    rw [Int.toNat_natCast, List.getElem?_append_right (Nat.le_refl _), Nat.sub_self]
    rfl⟩
  refine EvX.callI (as := []) (a := (kd.length : Int)) (st := (2, (kd.length : Int)) :: st) h3 hlk k_Game_init i_Game_init rfl a_Game_init (Nat.le_of_ble_eq_true rfl) (by rw [List.map_cons, List.sum_cons]; show 1 + _ ≤ 8; omega) (by omega) (c_Game_init ho (by omega) (by omega)) (fun r kd' m' h => ?_)
  obtain ⟨rfl, rfl, q1_q, q2_q⟩ := h
  rw [List.append_assoc]
  exact kk m' (fun c hc_q => by rw [q2_q c hc_q]; funext j; exact zrow_ne (by omega)) q1_q
