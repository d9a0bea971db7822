/-! NAMES: the words that a method bears, classes, fields, methods, links: by program (wip/whole/gen_names.py) -/
def zWs : List Cond := lw_tbl.filter goodWord
theorem zmemT {w : Cond} (h : w ∈ tables_1) (hg : goodWord w = true) : w ∈ zWs := List.mem_filter.mpr ⟨List.mem_append_right _ h, hg⟩
theorem zmem1 {w : Cond} {i : Nat} (h : tables_1_1[i]? = some w) (hg : goodWord w = true) : w ∈ zWs := zmemT (List.mem_append_left _ (List.mem_of_getElem? h)) hg
theorem zmem2 {w : Cond} {i : Nat} (h : tables_1_2[i]? = some w) (hg : goodWord w = true) : w ∈ zWs := zmemT (List.mem_append_right _ (List.mem_append_left _ (List.mem_of_getElem? h))) hg
theorem zmem3 {w : Cond} {i : Nat} (h : tables_1_3[i]? = some w) (hg : goodWord w = true) : w ∈ zWs := zmemT (List.mem_append_right _ (List.mem_append_right _ (List.mem_append_left _ (List.mem_of_getElem? h)))) hg
theorem zmem4 {w : Cond} {i : Nat} (h : tables_1_4[i]? = some w) (hg : goodWord w = true) : w ∈ zWs := zmemT (List.mem_append_right _ (List.mem_append_right _ (List.mem_append_right _ (List.mem_append_left _ (List.mem_of_getElem? h))))) hg
theorem zmem5 {w : Cond} {i : Nat} (h : tables_1_5[i]? = some w) (hg : goodWord w = true) : w ∈ zWs := zmemT (List.mem_append_right _ (List.mem_append_right _ (List.mem_append_right _ (List.mem_append_right _ (List.mem_append_left _ (List.mem_of_getElem? h)))))) hg
theorem zmem6 {w : Cond} {i : Nat} (h : tables_1_6[i]? = some w) (hg : goodWord w = true) : w ∈ zWs := zmemT (List.mem_append_right _ (List.mem_append_right _ (List.mem_append_right _ (List.mem_append_right _ (List.mem_append_right _ (List.mem_append_left _ (List.mem_of_getElem? h))))))) hg
theorem zmem7 {w : Cond} {i : Nat} (h : tables_1_7[i]? = some w) (hg : goodWord w = true) : w ∈ zWs := zmemT (List.mem_append_right _ (List.mem_append_right _ (List.mem_append_right _ (List.mem_append_right _ (List.mem_append_right _ (List.mem_append_right _ (List.mem_of_getElem? h))))))) hg
theorem zselT {q : MethodName × Nat} (h : q ∈ lw_privs) (hg : goodWord (Cond.selects q.1.cls q.1 q.1) = true) : Cond.selects q.1.cls q.1 q.1 ∈ zWs := List.mem_filter.mpr ⟨List.mem_append_left _ (List.mem_map.mpr ⟨q, h, rfl⟩), hg⟩
theorem zsel1 {q : MethodName × Nat} {i : Nat} (h : lw_privs_1[i]? = some q) (hg : goodWord (Cond.selects q.1.cls q.1 q.1) = true) : Cond.selects q.1.cls q.1 q.1 ∈ zWs := zselT (by unfold lw_privs; simp only [List.mem_append]; exact (by first | exact List.mem_of_getElem? h | simp [List.mem_of_getElem? h])) hg
theorem zsel2 {q : MethodName × Nat} {i : Nat} (h : lw_privs_2[i]? = some q) (hg : goodWord (Cond.selects q.1.cls q.1 q.1) = true) : Cond.selects q.1.cls q.1 q.1 ∈ zWs := zselT (by unfold lw_privs; simp only [List.mem_append]; exact (by first | exact List.mem_of_getElem? h | simp [List.mem_of_getElem? h])) hg
theorem zsel3 {q : MethodName × Nat} {i : Nat} (h : lw_privs_3[i]? = some q) (hg : goodWord (Cond.selects q.1.cls q.1 q.1) = true) : Cond.selects q.1.cls q.1 q.1 ∈ zWs := zselT (by unfold lw_privs; simp only [List.mem_append]; exact (by first | exact List.mem_of_getElem? h | simp [List.mem_of_getElem? h])) hg
theorem zsel4 {q : MethodName × Nat} {i : Nat} (h : lw_privs_4[i]? = some q) (hg : goodWord (Cond.selects q.1.cls q.1 q.1) = true) : Cond.selects q.1.cls q.1 q.1 ∈ zWs := zselT (by unfold lw_privs; simp only [List.mem_append]; exact (by first | exact List.mem_of_getElem? h | simp [List.mem_of_getElem? h])) hg
theorem zsel5 {q : MethodName × Nat} {i : Nat} (h : lw_privs_5[i]? = some q) (hg : goodWord (Cond.selects q.1.cls q.1 q.1) = true) : Cond.selects q.1.cls q.1 q.1 ∈ zWs := zselT (by unfold lw_privs; simp only [List.mem_append]; exact (by first | exact List.mem_of_getElem? h | simp [List.mem_of_getElem? h])) hg
theorem zsel6 {q : MethodName × Nat} {i : Nat} (h : lw_privs_6[i]? = some q) (hg : goodWord (Cond.selects q.1.cls q.1 q.1) = true) : Cond.selects q.1.cls q.1 q.1 ∈ zWs := zselT (by unfold lw_privs; simp only [List.mem_append]; exact (by first | exact List.mem_of_getElem? h | simp [List.mem_of_getElem? h])) hg
theorem zsel7 {q : MethodName × Nat} {i : Nat} (h : lw_privs_7[i]? = some q) (hg : goodWord (Cond.selects q.1.cls q.1 q.1) = true) : Cond.selects q.1.cls q.1 q.1 ∈ zWs := zselT (by unfold lw_privs; simp only [List.mem_append]; exact (by first | exact List.mem_of_getElem? h | simp [List.mem_of_getElem? h])) hg
theorem zsel8 {q : MethodName × Nat} {i : Nat} (h : lw_privs_8[i]? = some q) (hg : goodWord (Cond.selects q.1.cls q.1 q.1) = true) : Cond.selects q.1.cls q.1 q.1 ∈ zWs := zselT (by unfold lw_privs; simp only [List.mem_append]; exact (by first | exact List.mem_of_getElem? h | simp [List.mem_of_getElem? h])) hg
theorem zsel9 {q : MethodName × Nat} {i : Nat} (h : lw_privs_9[i]? = some q) (hg : goodWord (Cond.selects q.1.cls q.1 q.1) = true) : Cond.selects q.1.cls q.1 q.1 ∈ zWs := zselT (by unfold lw_privs; simp only [List.mem_append]; exact (by first | exact List.mem_of_getElem? h | simp [List.mem_of_getElem? h])) hg
theorem zsel10 {q : MethodName × Nat} {i : Nat} (h : lw_privs_10[i]? = some q) (hg : goodWord (Cond.selects q.1.cls q.1 q.1) = true) : Cond.selects q.1.cls q.1 q.1 ∈ zWs := zselT (by unfold lw_privs; simp only [List.mem_append]; exact (by first | exact List.mem_of_getElem? h | simp [List.mem_of_getElem? h])) hg
theorem zsel11 {q : MethodName × Nat} {i : Nat} (h : lw_privs_11[i]? = some q) (hg : goodWord (Cond.selects q.1.cls q.1 q.1) = true) : Cond.selects q.1.cls q.1 q.1 ∈ zWs := zselT (by unfold lw_privs; simp only [List.mem_append]; exact (by first | exact List.mem_of_getElem? h | simp [List.mem_of_getElem? h])) hg
theorem zsel12 {q : MethodName × Nat} {i : Nat} (h : lw_privs_12[i]? = some q) (hg : goodWord (Cond.selects q.1.cls q.1 q.1) = true) : Cond.selects q.1.cls q.1 q.1 ∈ zWs := zselT (by unfold lw_privs; simp only [List.mem_append]; exact (by first | exact List.mem_of_getElem? h | simp [List.mem_of_getElem? h])) hg
abbrev ZMeth : Type := MethodName × ByteArray × Nat × Option FieldType
def ZOK (M : ZMeth) : Prop := Cond.code M.1 M.2.1 M.2.2.1 M.2.2.2 ∈ zWs ∧ Cond.initialized M.1.cls ∈ zWs ∧ plainName M.1.cls = true ∧ (M.1.cls ≠ "java/lang/invoke/MethodHandle" ∧ M.1.cls ≠ "java/lang/invoke/VarHandle")
def ZVirt (M : ZMeth) : Prop := Cond.instanceMethod M.1 ∈ zWs ∧ Cond.selects M.1.cls M.1 M.1 ∈ zWs
def ZInit (M : ZMeth) : Prop := Cond.instanceMethod M.1 ∈ zWs ∧ M.1.name = "<init>"
def ZStat (M : ZMeth) : Prop := Cond.static M.1 ∈ zWs
def R_Duo : String := "ApartGames$Duo"
def T_Duo : u_T := fun k => match k with
  | 0 => ("ApartGames$Duo", "annRow", "[I", true)
  | 1 => ("ApartGames$Duo", "benRow", "[I", true)
  | _ => ("ApartGames$Duo", "bestRow", "[I", true)
def t_Duo : Nat → FieldType := fun k => match k with
  | 0 => .array .int
  | 1 => .array .int
  | _ => .array .int
theorem n_Duo : ∀ a, a < 3 → ∀ b, b < 3 → a ≠ b → (T_Duo a).2.1 ≠ (T_Duo b).2.1 := by decide +kernel
theorem t_Duo_ok : ∀ k, k < 3 → parseFieldDescriptor (T_Duo k).2.2.1 = some (t_Duo k) := by decide +kernel
theorem in_Duo : ∀ w ∈ u_ws R_Duo T_Duo 3, w ∈ zWs := List.forall_mem_cons.mpr ⟨zmem1 (i := 181) rfl rfl, List.forall_mem_cons.mpr ⟨zmem1 (i := 183) rfl rfl, List.forall_mem_cons.mpr ⟨zmem1 (i := 185) rfl rfl, fun _ h => absurd h List.not_mem_nil⟩⟩⟩
def R_Game : String := "ApartGames$Game"
def T_Game : u_T := fun k => match k with
  | 0 => ("ApartGames$Game", "annQuestions", "I", false)
  | 1 => ("ApartGames$Game", "benQuestions", "I", false)
  | 2 => ("ApartGames$Game", "annAnswers", "I", false)
  | 3 => ("ApartGames$Game", "benAnswers", "I", false)
  | 4 => ("ApartGames$Game", "weights", "[I", true)
  | 5 => ("ApartGames$Game", "winning", "[I", true)
  | _ => ("ApartGames$Game", "boxes", "[I", true)
def t_Game : Nat → FieldType := fun k => match k with
  | 0 => .int
  | 1 => .int
  | 2 => .int
  | 3 => .int
  | 4 => .array .int
  | 5 => .array .int
  | _ => .array .int
theorem n_Game : ∀ a, a < 7 → ∀ b, b < 7 → a ≠ b → (T_Game a).2.1 ≠ (T_Game b).2.1 := by decide +kernel
theorem t_Game_ok : ∀ k, k < 7 → parseFieldDescriptor (T_Game k).2.2.1 = some (t_Game k) := by decide +kernel
theorem in_Game : ∀ w ∈ u_ws R_Game T_Game 7, w ∈ zWs := List.forall_mem_cons.mpr ⟨zmem1 (i := 102) rfl rfl, List.forall_mem_cons.mpr ⟨zmem1 (i := 104) rfl rfl, List.forall_mem_cons.mpr ⟨zmem1 (i := 106) rfl rfl, List.forall_mem_cons.mpr ⟨zmem1 (i := 108) rfl rfl, List.forall_mem_cons.mpr ⟨zmem1 (i := 110) rfl rfl, List.forall_mem_cons.mpr ⟨zmem1 (i := 112) rfl rfl, List.forall_mem_cons.mpr ⟨zmem1 (i := 114) rfl rfl, fun _ h => absurd h List.not_mem_nil⟩⟩⟩⟩⟩⟩⟩
def R_Past : String := "ApartGames$Past"
def T_Past : u_T := fun k => match k with
  | 0 => ("ApartGames$Past", "games", "[LApartGames$Game;", true)
  | 1 => ("ApartGames$Past", "next", "I", false)
  | _ => ("ApartGames$Past", "size", "I", false)
def t_Past : Nat → FieldType := fun k => match k with
  | 0 => .array (.object "ApartGames$Game")
  | 1 => .int
  | _ => .int
theorem n_Past : ∀ a, a < 3 → ∀ b, b < 3 → a ≠ b → (T_Past a).2.1 ≠ (T_Past b).2.1 := by decide +kernel
theorem t_Past_ok : ∀ k, k < 3 → parseFieldDescriptor (T_Past k).2.2.1 = some (t_Past k) := by decide +kernel
theorem in_Past : ∀ w ∈ u_ws R_Past T_Past 3, w ∈ zWs := List.forall_mem_cons.mpr ⟨zmem1 (i := 121) rfl rfl, List.forall_mem_cons.mpr ⟨zmem1 (i := 123) rfl rfl, List.forall_mem_cons.mpr ⟨zmem1 (i := 125) rfl rfl, fun _ h => absurd h List.not_mem_nil⟩⟩⟩
def R_Scribe : String := "ApartGames$Scribe"
def T_Scribe : u_T := fun k => match k with
  | 0 => ("ApartGames$Scribe", "wanted", "I", false)
  | 1 => ("ApartGames$Scribe", "found", "I", false)
  | _ => ("ApartGames$Scribe", "length", "I", false)
def t_Scribe : Nat → FieldType := fun k => match k with
  | 0 => .int
  | 1 => .int
  | _ => .int
theorem n_Scribe : ∀ a, a < 3 → ∀ b, b < 3 → a ≠ b → (T_Scribe a).2.1 ≠ (T_Scribe b).2.1 := by decide +kernel
theorem t_Scribe_ok : ∀ k, k < 3 → parseFieldDescriptor (T_Scribe k).2.2.1 = some (t_Scribe k) := by decide +kernel
theorem in_Scribe : ∀ w ∈ u_ws R_Scribe T_Scribe 3, w ∈ zWs := List.forall_mem_cons.mpr ⟨zmem1 (i := 214) rfl rfl, List.forall_mem_cons.mpr ⟨zmem1 (i := 216) rfl rfl, List.forall_mem_cons.mpr ⟨zmem1 (i := 218) rfl rfl, fun _ h => absurd h List.not_mem_nil⟩⟩⟩
def R_Shape : String := "ApartGames$Shape"
def T_Shape : u_T := fun k => match k with
  | 0 => ("ApartGames$Shape", "marks", "[I", true)
  | 1 => ("ApartGames$Shape", "looks", "[I", true)
  | _ => ("ApartGames$Shape", "order", "[I", true)
def t_Shape : Nat → FieldType := fun k => match k with
  | 0 => .array .int
  | 1 => .array .int
  | _ => .array .int
theorem n_Shape : ∀ a, a < 3 → ∀ b, b < 3 → a ≠ b → (T_Shape a).2.1 ≠ (T_Shape b).2.1 := by decide +kernel
theorem t_Shape_ok : ∀ k, k < 3 → parseFieldDescriptor (T_Shape k).2.2.1 = some (t_Shape k) := by decide +kernel
theorem in_Shape : ∀ w ∈ u_ws R_Shape T_Shape 3, w ∈ zWs := List.forall_mem_cons.mpr ⟨zmem1 (i := 197) rfl rfl, List.forall_mem_cons.mpr ⟨zmem1 (i := 199) rfl rfl, List.forall_mem_cons.mpr ⟨zmem1 (i := 201) rfl rfl, fun _ h => absurd h List.not_mem_nil⟩⟩⟩
def R_Table : String := "ApartGames$Table"
def T_Table : u_T := fun k => match k with
  | 0 => ("ApartGames$Table", "questions", "I", false)
  | 1 => ("ApartGames$Table", "answers", "I", false)
  | 2 => ("ApartGames$Table", "groups", "I", false)
  | 3 => ("ApartGames$Table", "replies", "I", false)
  | 4 => ("ApartGames$Table", "line", "I", false)
  | 5 => ("ApartGames$Table", "gains", "[I", true)
  | 6 => ("ApartGames$Table", "sums", "[I", true)
  | 7 => ("ApartGames$Table", "hopes", "[I", true)
  | 8 => ("ApartGames$Table", "needless", "[Z", true)
  | 9 => ("ApartGames$Table", "row", "[I", true)
  | 10 => ("ApartGames$Table", "replyRow", "[I", true)
  | _ => ("ApartGames$Table", "most", "I", false)
def t_Table : Nat → FieldType := fun k => match k with
  | 0 => .int
  | 1 => .int
  | 2 => .int
  | 3 => .int
  | 4 => .int
  | 5 => .array .int
  | 6 => .array .int
  | 7 => .array .int
  | 8 => .array .boolean
  | 9 => .array .int
  | 10 => .array .int
  | _ => .int
theorem n_Table : ∀ a, a < 12 → ∀ b, b < 12 → a ≠ b → (T_Table a).2.1 ≠ (T_Table b).2.1 := by decide +kernel
theorem t_Table_ok : ∀ k, k < 12 → parseFieldDescriptor (T_Table k).2.2.1 = some (t_Table k) := by decide +kernel
theorem in_Table : ∀ w ∈ u_ws R_Table T_Table 12, w ∈ zWs := List.forall_mem_cons.mpr ⟨zmem1 (i := 146) rfl rfl, List.forall_mem_cons.mpr ⟨zmem1 (i := 148) rfl rfl, List.forall_mem_cons.mpr ⟨zmem1 (i := 150) rfl rfl, List.forall_mem_cons.mpr ⟨zmem1 (i := 152) rfl rfl, List.forall_mem_cons.mpr ⟨zmem1 (i := 154) rfl rfl, List.forall_mem_cons.mpr ⟨zmem1 (i := 156) rfl rfl, List.forall_mem_cons.mpr ⟨zmem1 (i := 158) rfl rfl, List.forall_mem_cons.mpr ⟨zmem1 (i := 160) rfl rfl, List.forall_mem_cons.mpr ⟨zmem1 (i := 162) rfl rfl, List.forall_mem_cons.mpr ⟨zmem1 (i := 164) rfl rfl, List.forall_mem_cons.mpr ⟨zmem1 (i := 166) rfl rfl, List.forall_mem_cons.mpr ⟨zmem1 (i := 168) rfl rfl, fun _ h => absurd h List.not_mem_nil⟩⟩⟩⟩⟩⟩⟩⟩⟩⟩⟩⟩
def R_Tape : String := "ApartGames$Tape"
def T_Tape : u_T := fun k => match k with
  | 0 => ("ApartGames$Tape", "bytes", "[I", true)
  | 1 => ("ApartGames$Tape", "length", "I", false)
  | 2 => ("ApartGames$Tape", "at", "I", false)
  | _ => ("ApartGames$Tape", "fault", "I", false)
def t_Tape : Nat → FieldType := fun k => match k with
  | 0 => .array .int
  | 1 => .int
  | 2 => .int
  | _ => .int
theorem n_Tape : ∀ a, a < 4 → ∀ b, b < 4 → a ≠ b → (T_Tape a).2.1 ≠ (T_Tape b).2.1 := by decide +kernel
theorem t_Tape_ok : ∀ k, k < 4 → parseFieldDescriptor (T_Tape k).2.2.1 = some (t_Tape k) := by decide +kernel
theorem in_Tape : ∀ w ∈ u_ws R_Tape T_Tape 4, w ∈ zWs := List.forall_mem_cons.mpr ⟨zmem1 (i := 35) rfl rfl, List.forall_mem_cons.mpr ⟨zmem1 (i := 37) rfl rfl, List.forall_mem_cons.mpr ⟨zmem1 (i := 39) rfl rfl, List.forall_mem_cons.mpr ⟨zmem1 (i := 41) rfl rfl, fun _ h => absurd h List.not_mem_nil⟩⟩⟩⟩
def R_Ap : String := "ApartGames"
def T_Ap : u_T := fun k => match k with
  | 0 => ("ApartGames", "tape", "LApartGames$Tape;", true)
  | 1 => ("ApartGames", "past", "LApartGames$Past;", true)
  | 2 => ("ApartGames", "table", "LApartGames$Table;", true)
  | 3 => ("ApartGames", "duo", "LApartGames$Duo;", true)
  | 4 => ("ApartGames", "shape", "LApartGames$Shape;", true)
  | 5 => ("ApartGames", "scribe", "LApartGames$Scribe;", true)
  | 6 => ("ApartGames", "shelves", "[LApartGames$Game;", true)
  | 7 => ("ApartGames", "shelvesInUse", "I", false)
  | 8 => ("ApartGames", "game", "LApartGames$Game;", false)
  | _ => ("ApartGames", "spare", "LApartGames$Game;", false)
def t_Ap : Nat → FieldType := fun k => match k with
  | 0 => .object "ApartGames$Tape"
  | 1 => .object "ApartGames$Past"
  | 2 => .object "ApartGames$Table"
  | 3 => .object "ApartGames$Duo"
  | 4 => .object "ApartGames$Shape"
  | 5 => .object "ApartGames$Scribe"
  | 6 => .array (.object "ApartGames$Game")
  | 7 => .int
  | 8 => .object "ApartGames$Game"
  | _ => .object "ApartGames$Game"
theorem n_Ap : ∀ a, a < 10 → ∀ b, b < 10 → a ≠ b → (T_Ap a).2.1 ≠ (T_Ap b).2.1 := by decide +kernel
theorem t_Ap_ok : ∀ k, k < 10 → parseFieldDescriptor (T_Ap k).2.2.1 = some (t_Ap k) := by decide +kernel
theorem in_Ap : ∀ w ∈ u_ws R_Ap T_Ap 10, w ∈ zWs := List.forall_mem_cons.mpr ⟨zmem1 (i := 233) rfl rfl, List.forall_mem_cons.mpr ⟨zmem1 (i := 235) rfl rfl, List.forall_mem_cons.mpr ⟨zmem1 (i := 237) rfl rfl, List.forall_mem_cons.mpr ⟨zmem1 (i := 239) rfl rfl, List.forall_mem_cons.mpr ⟨zmem2 (i := 1) rfl rfl, List.forall_mem_cons.mpr ⟨zmem2 (i := 3) rfl rfl, List.forall_mem_cons.mpr ⟨zmem2 (i := 5) rfl rfl, List.forall_mem_cons.mpr ⟨zmem2 (i := 7) rfl rfl, List.forall_mem_cons.mpr ⟨zmem2 (i := 9) rfl rfl, List.forall_mem_cons.mpr ⟨zmem2 (i := 11) rfl rfl, fun _ h => absurd h List.not_mem_nil⟩⟩⟩⟩⟩⟩⟩⟩⟩⟩
def R_Mo : String := "ApartGamesModel"
def T_Mo : u_T := fun k => match k with
  | 0 => ("ApartGamesModel", "now", "[I", true)
  | 1 => ("ApartGamesModel", "heard", "[I", true)
  | 2 => ("ApartGamesModel", "aside", "[I", true)
  | 3 => ("ApartGamesModel", "past", "[I", true)
  | 4 => ("ApartGamesModel", "shelf", "[I", true)
  | 5 => ("ApartGamesModel", "isKept", "[Z", true)
  | 6 => ("ApartGamesModel", "pastMany", "I", false)
  | 7 => ("ApartGamesModel", "tape", "[B", true)
  | 8 => ("ApartGamesModel", "taped", "I", false)
  | 9 => ("ApartGamesModel", "at", "I", false)
  | 10 => ("ApartGamesModel", "fault", "I", false)
  | 11 => ("ApartGamesModel", "numberAt", "I", false)
  | 12 => ("ApartGamesModel", "rowAnn", "[I", true)
  | 13 => ("ApartGamesModel", "rowBen", "[I", true)
  | 14 => ("ApartGamesModel", "seed", "I", false)
  | 15 => ("ApartGamesModel", "by", "[I", true)
  | 16 => ("ApartGamesModel", "sureRow", "I", false)
  | 17 => ("ApartGamesModel", "part", "[I", true)
  | 18 => ("ApartGamesModel", "won", "[I", true)
  | 19 => ("ApartGamesModel", "pairRow", "[I", true)
  | 20 => ("ApartGamesModel", "table", "[I", true)
  | 21 => ("ApartGamesModel", "orderAnn", "[I", true)
  | 22 => ("ApartGamesModel", "orderBen", "[I", true)
  | 23 => ("ApartGamesModel", "written", "I", false)
  | 24 => ("ApartGamesModel", "wanted", "I", false)
  | _ => ("ApartGamesModel", "found", "I", false)
def t_Mo : Nat → FieldType := fun k => match k with
  | 0 => .array .int
  | 1 => .array .int
  | 2 => .array .int
  | 3 => .array .int
  | 4 => .array .int
  | 5 => .array .boolean
  | 6 => .int
  | 7 => .array .byte
  | 8 => .int
  | 9 => .int
  | 10 => .int
  | 11 => .int
  | 12 => .array .int
  | 13 => .array .int
  | 14 => .int
  | 15 => .array .int
  | 16 => .int
  | 17 => .array .int
  | 18 => .array .int
  | 19 => .array .int
  | 20 => .array .int
  | 21 => .array .int
  | 22 => .array .int
  | 23 => .int
  | 24 => .int
  | _ => .int
theorem n_Mo : ∀ a, a < 26 → ∀ b, b < 26 → a ≠ b → (T_Mo a).2.1 ≠ (T_Mo b).2.1 := by decide +kernel
theorem t_Mo_ok : ∀ k, k < 26 → parseFieldDescriptor (T_Mo k).2.2.1 = some (t_Mo k) := by decide +kernel
theorem in_Mo : ∀ w ∈ u_ws R_Mo T_Mo 26, w ∈ zWs := List.forall_mem_cons.mpr ⟨zmem5 (i := 138) rfl rfl, List.forall_mem_cons.mpr ⟨zmem5 (i := 140) rfl rfl, List.forall_mem_cons.mpr ⟨zmem5 (i := 142) rfl rfl, List.forall_mem_cons.mpr ⟨zmem5 (i := 144) rfl rfl, List.forall_mem_cons.mpr ⟨zmem5 (i := 146) rfl rfl, List.forall_mem_cons.mpr ⟨zmem5 (i := 148) rfl rfl, List.forall_mem_cons.mpr ⟨zmem5 (i := 150) rfl rfl, List.forall_mem_cons.mpr ⟨zmem5 (i := 152) rfl rfl, List.forall_mem_cons.mpr ⟨zmem5 (i := 154) rfl rfl, List.forall_mem_cons.mpr ⟨zmem5 (i := 156) rfl rfl, List.forall_mem_cons.mpr ⟨zmem5 (i := 158) rfl rfl, List.forall_mem_cons.mpr ⟨zmem5 (i := 160) rfl rfl, List.forall_mem_cons.mpr ⟨zmem5 (i := 162) rfl rfl, List.forall_mem_cons.mpr ⟨zmem5 (i := 164) rfl rfl, List.forall_mem_cons.mpr ⟨zmem5 (i := 166) rfl rfl, List.forall_mem_cons.mpr ⟨zmem5 (i := 168) rfl rfl, List.forall_mem_cons.mpr ⟨zmem5 (i := 170) rfl rfl, List.forall_mem_cons.mpr ⟨zmem5 (i := 172) rfl rfl, List.forall_mem_cons.mpr ⟨zmem5 (i := 174) rfl rfl, List.forall_mem_cons.mpr ⟨zmem5 (i := 176) rfl rfl, List.forall_mem_cons.mpr ⟨zmem5 (i := 178) rfl rfl, List.forall_mem_cons.mpr ⟨zmem5 (i := 180) rfl rfl, List.forall_mem_cons.mpr ⟨zmem5 (i := 182) rfl rfl, List.forall_mem_cons.mpr ⟨zmem5 (i := 184) rfl rfl, List.forall_mem_cons.mpr ⟨zmem5 (i := 186) rfl rfl, List.forall_mem_cons.mpr ⟨zmem5 (i := 188) rfl rfl, fun _ h => absurd h List.not_mem_nil⟩⟩⟩⟩⟩⟩⟩⟩⟩⟩⟩⟩⟩⟩⟩⟩⟩⟩⟩⟩⟩⟩⟩⟩⟩⟩
abbrev zCl : List vw_C := [(R_Duo, T_Duo, 3), (R_Game, T_Game, 7), (R_Past, T_Past, 3), (R_Scribe, T_Scribe, 3), (R_Shape, T_Shape, 3), (R_Table, T_Table, 12), (R_Tape, T_Tape, 4), (R_Ap, T_Ap, 10), (R_Mo, T_Mo, 26)]
/-- which fields hold references (2), which numbers (0) -/
def zTags : List (List Nat) := [[2, 2, 2], [0, 0, 0, 0, 2, 2, 2], [2, 0, 0], [0, 0, 0], [2, 2, 2], [0, 0, 0, 0, 0, 2, 2, 2, 2, 2, 2, 0], [2, 0, 0, 0], [2, 2, 2, 2, 2, 2, 2, 0, 2, 2], [2, 2, 2, 2, 2, 2, 0, 2, 0, 0, 0, 0, 2, 2, 0, 2, 0, 2, 2, 2, 2, 2, 2, 0, 0, 0]]
def ztag (c k : Nat) : Nat := (zTags.getD c []).getD k 0
def zNM : List (String × Nat × MethodName × String) := [("ApartGames", 9, ⟨"ApartGames$Tape", "<init>", "()V"⟩, "ApartGames"),
  ("ApartGames", 18, ⟨"ApartGames$Past", "<init>", "()V"⟩, "ApartGames"),
  ("ApartGames$Past", 9, ⟨"ApartGames$Game", "<init>", "()V"⟩, "ApartGames"),
  ("ApartGames", 25, ⟨"ApartGames$Table", "<init>", "()V"⟩, "ApartGames"),
  ("ApartGames", 32, ⟨"ApartGames$Duo", "<init>", "()V"⟩, "ApartGames"),
  ("ApartGames", 39, ⟨"ApartGames$Shape", "<init>", "()V"⟩, "ApartGames"),
  ("ApartGames", 46, ⟨"ApartGames$Scribe", "<init>", "()V"⟩, "ApartGames"),
  ("ApartGames", 53, ⟨"ApartGames$Game", "<init>", "()V"⟩, "ApartGames"),
  ("ApartGames", 69, ⟨"ApartGames$Tape", "hasRoomForFive", "()Z"⟩, "ApartGames"),
  ("ApartGames", 73, ⟨"ApartGames$Tape", "addNumber", "(I)V"⟩, "ApartGames"),
  ("ApartGames", 80, ⟨"ApartGames$Tape", "readInto", "(LApartGames$Game;)I"⟩, "ApartGames"),
  ("ApartGames$Tape", 53, ⟨"ApartGames$Game", "start", "(IIII)V"⟩, "ApartGames"),
  ("ApartGames$Tape", 83, ⟨"ApartGames", "cellOf", "(III)I"⟩, "ApartGames"),
  ("ApartGames$Tape", 93, ⟨"ApartGames", "spotOf", "(IIIII)I"⟩, "ApartGames"),
  ("ApartGames", 87, ⟨"ApartGames$Past", "forget", "()V"⟩, "ApartGames"),
  ("ApartGames", 93, ⟨"ApartGames$Game", "hasCell", "(II)Z"⟩, "ApartGames"),
  ("ApartGames$Game", 52, ⟨"ApartGames", "isPlayer", "(I)Z"⟩, "ApartGames"),
  ("ApartGames", 105, ⟨"ApartGames$Past", "remember", "(LApartGames$Game;)V"⟩, "ApartGames"),
  ("ApartGames$Past", 23, ⟨"ApartGames$Game", "become", "(LApartGames$Game;)V"⟩, "ApartGames"),
  ("ApartGames", 109, ⟨"ApartGames$Game", "hasSpot", "(IIII)Z"⟩, "ApartGames"),
  ("ApartGames", 120, ⟨"ApartGames$Game", "signAt", "(II)I"⟩, "ApartGames"),
  ("ApartGames$Game", 48, ⟨"ApartGames", "spotOf", "(IIIII)I"⟩, "ApartGames"),
  ("ApartGames", 124, ⟨"ApartGames$Game", "winByParity", "(III)V"⟩, "ApartGames"),
  ("ApartGames", 128, ⟨"ApartGames$Game", "hasTwoAnswers", "(IIII)Z"⟩, "ApartGames"),
  ("ApartGames", 131, ⟨"ApartGames$Game", "exchangeAnswers", "(IIII)V"⟩, "ApartGames"),
  ("ApartGames", 135, ⟨"ApartGames$Game", "isTold", "()Z"⟩, "ApartGames"),
  ("ApartGames", 138, ⟨"ApartGames$Game", "becomeFlipped", "(LApartGames$Game;)V"⟩, "ApartGames"),
  ("ApartGames$Game", 40, ⟨"ApartGames", "cellOf", "(III)I"⟩, "ApartGames"),
  ("ApartGames", 141, ⟨"ApartGames$Game", "hasQuestion", "(II)Z"⟩, "ApartGames"),
  ("ApartGames", 144, ⟨"ApartGames$Game", "questionsOf", "(I)I"⟩, "ApartGames"),
  ("ApartGames", 148, ⟨"ApartGames$Game", "dropQuestion", "(II)I"⟩, "ApartGames"),
  ("ApartGames", 151, ⟨"ApartGames$Game", "addQuestionLike", "(II)I"⟩, "ApartGames"),
  ("ApartGames", 157, ⟨"ApartGames$Duo", "takeBoth", "(LApartGames$Game;II)Z"⟩, "ApartGames"),
  ("ApartGames$Duo", 29, ⟨"ApartGames$Game", "isTold", "()Z"⟩, "ApartGames"),
  ("ApartGames$Duo", 35, ⟨"ApartGames$Game", "questionsOf", "(I)I"⟩, "ApartGames"),
  ("ApartGames$Duo", 39, ⟨"ApartGames$Game", "hasAnswer", "(II)Z"⟩, "ApartGames"),
  ("ApartGames", 161, ⟨"ApartGames$Duo", "greatestBox", "(LApartGames$Game;)I"⟩, "ApartGames"),
  ("ApartGames$Duo", 94, ⟨"ApartGames", "spotOf", "(IIIII)I"⟩, "ApartGames"),
  ("ApartGames", 164, ⟨"ApartGames$Duo", "addToBoxes", "(LApartGames$Game;I)V"⟩, "ApartGames"),
  ("ApartGames", 168, ⟨"ApartGames$Game", "drawAll", "(I)V"⟩, "ApartGames"),
  ("ApartGames", 171, ⟨"ApartGames$Game", "winningSpots", "()I"⟩, "ApartGames"),
  ("ApartGames", 178, ⟨"ApartGames$Past", "restore", "(LApartGames$Game;)V"⟩, "ApartGames"),
  ("ApartGames", 181, ⟨"ApartGames$Game", "become", "(LApartGames$Game;)V"⟩, "ApartGames"),
  ("ApartGames", 190, ⟨"ApartGames$Table", "loadSome", "(LApartGames$Game;II)V"⟩, "ApartGames"),
  ("ApartGames$Table", 50, ⟨"ApartGames$Game", "answersOf", "(I)I"⟩, "ApartGames"),
  ("ApartGames$Table", 56, ⟨"ApartGames$Game", "questionsOf", "(I)I"⟩, "ApartGames"),
  ("ApartGames$Table", 67, ⟨"ApartGames$Game", "gain", "(IIIII)I"⟩, "ApartGames"),
  ("ApartGames", 288, ⟨"ApartGames$Table", "mostAbove", "(I)I"⟩, "ApartGames"),
  ("ApartGames", 187, ⟨"ApartGames$Game", "weightTogether", "()I"⟩, "ApartGames"),
  ("ApartGames", 194, ⟨"ApartGames$Table", "leastLow", "()I"⟩, "ApartGames"),
  ("ApartGames", 197, ⟨"ApartGames$Table", "mostLow", "()I"⟩, "ApartGames"),
  ("ApartGames", 204, ⟨"ApartGames$Table", "firstRowOfLow", "(I)I"⟩, "ApartGames"),
  ("ApartGames$Table", 146, ⟨"ApartGames$Duo", "numberOf", "([II)I"⟩, "ApartGames"),
  ("ApartGames", 207, ⟨"ApartGames$Duo", "worthBoth", "(LApartGames$Game;)I"⟩, "ApartGames"),
  ("ApartGames$Duo", 55, ⟨"ApartGames$Game", "gain", "(IIIII)I"⟩, "ApartGames"),
  ("ApartGames", 210, ⟨"ApartGames$Duo", "take", "(LApartGames$Game;II)Z"⟩, "ApartGames"),
  ("ApartGames", 213, ⟨"ApartGames$Duo", "spanAt", "(LApartGames$Game;I)I"⟩, "ApartGames"),
  ("ApartGames", 217, ⟨"ApartGames$Duo", "answerBest", "(LApartGames$Game;I)I"⟩, "ApartGames"),
  ("ApartGames$Duo", 71, ⟨"ApartGames$Game", "answersOf", "(I)I"⟩, "ApartGames"),
  ("ApartGames", 220, ⟨"ApartGames$Duo", "bestReply", "(LApartGames$Game;I)I"⟩, "ApartGames"),
  ("ApartGames", 225, ⟨"ApartGames$Table", "countTops", "(I)J"⟩, "ApartGames"),
  ("ApartGames", 229, ⟨"ApartGames$Table", "rowOfTop", "(III)I"⟩, "ApartGames"),
  ("ApartGames", 232, ⟨"ApartGames$Table", "countTopsLosing", "(LApartGames$Game;III)J"⟩, "ApartGames"),
  ("ApartGames$Table", 97, ⟨"ApartGames", "spotOf", "(IIIII)I"⟩, "ApartGames"),
  ("ApartGames", 236, ⟨"ApartGames$Game", "weightOfWinningSpots", "()I"⟩, "ApartGames"),
  ("ApartGames", 251, ⟨"ApartGames$Game", "isLesser", "(IIII)Z"⟩, "ApartGames"),
  ("ApartGames", 254, ⟨"ApartGames$Game", "areSame", "(III)Z"⟩, "ApartGames"),
  ("ApartGames", 258, ⟨"ApartGames$Duo", "climbUp", "(LApartGames$Game;)I"⟩, "ApartGames"),
  ("ApartGames", 261, ⟨"ApartGames$Duo", "rowOf", "(LApartGames$Game;I)I"⟩, "ApartGames"),
  ("ApartGames", 264, ⟨"ApartGames$Shape", "partsOf", "(LApartGames$Game;)I"⟩, "ApartGames"),
  ("ApartGames$Shape", 43, ⟨"ApartGames", "cellOf", "(III)I"⟩, "ApartGames"),
  ("ApartGames", 267, ⟨"ApartGames$Shape", "greatestPartOf", "(LApartGames$Game;)I"⟩, "ApartGames"),
  ("ApartGames", 270, ⟨"ApartGames$Game", "isParityGame", "()Z"⟩, "ApartGames"),
  ("ApartGames", 276, ⟨"ApartGames$Game", "squares", "(Z)I"⟩, "ApartGames"),
  ("ApartGames", 284, ⟨"ApartGames$Table", "loadTwice", "(LApartGames$Game;Z)V"⟩, "ApartGames"),
  ("ApartGames$Table", 90, ⟨"ApartGames", "cellOf", "(III)I"⟩, "ApartGames"),
  ("ApartGames", 291, ⟨"ApartGames$Table", "loadWithItself", "(LApartGames$Game;)V"⟩, "ApartGames"),
  ("ApartGames$Table", 104, ⟨"ApartGames$Game", "signedWeight", "(II)I"⟩, "ApartGames"),
  ("ApartGames", 294, ⟨"ApartGames$Game", "boxWorth", "()I"⟩, "ApartGames"),
  ("ApartGames", 297, ⟨"ApartGames$Game", "isWhole", "()Z"⟩, "ApartGames"),
  ("ApartGames", 300, ⟨"ApartGames$Game", "signalsTo", "(I)Z"⟩, "ApartGames"),
  ("ApartGames", 303, ⟨"ApartGames$Game", "hasAnswer", "(II)Z"⟩, "ApartGames"),
  ("ApartGames", 306, ⟨"ApartGames$Game", "howOften", "(IIII)I"⟩, "ApartGames"),
  ("ApartGames", 310, ⟨"ApartGames$Shape", "ordersOf", "(LApartGames$Game;)I"⟩, "ApartGames"),
  ("ApartGames$Shape", 73, ⟨"ApartGames", "spotOf", "(IIIII)I"⟩, "ApartGames"),
  ("ApartGames", 313, ⟨"ApartGames$Scribe", "write", "(LApartGames$Game;I)I"⟩, "ApartGames"),
  ("ApartGames$Scribe", 21, ⟨"ApartGames$Game", "isTold", "()Z"⟩, "ApartGames"),
  ("ApartGames$Scribe", 71, ⟨"ApartGames", "cellOf", "(III)I"⟩, "ApartGames"),
  ("ApartGames$Scribe", 77, ⟨"ApartGames", "spotOf", "(IIIII)I"⟩, "ApartGames")]
def zNF : List (String × Nat × String × String × String × String) := [("ApartGames", 77, "ApartGames$Tape", "length", "I", "ApartGames"),
  ("ApartGames$Scribe", 33, "ApartGames$Game", "annQuestions", "I", "ApartGames"),
  ("ApartGames$Shape", 31, "ApartGames$Game", "annQuestions", "I", "ApartGames"),
  ("ApartGames", 90, "ApartGames$Game", "annQuestions", "I", "ApartGames"),
  ("ApartGames$Table", 71, "ApartGames$Game", "annQuestions", "I", "ApartGames"),
  ("ApartGames$Tape", 63, "ApartGames$Game", "annQuestions", "I", "ApartGames"),
  ("ApartGames$Duo", 47, "ApartGames$Game", "annQuestions", "I", "ApartGames"),
  ("ApartGames$Scribe", 40, "ApartGames$Game", "benQuestions", "I", "ApartGames"),
  ("ApartGames$Shape", 37, "ApartGames$Game", "benQuestions", "I", "ApartGames"),
  ("ApartGames$Table", 77, "ApartGames$Game", "benQuestions", "I", "ApartGames"),
  ("ApartGames$Tape", 66, "ApartGames$Game", "benQuestions", "I", "ApartGames"),
  ("ApartGames$Duo", 88, "ApartGames$Game", "benQuestions", "I", "ApartGames"),
  ("ApartGames", 319, "ApartGames$Game", "benQuestions", "I", "ApartGames"),
  ("ApartGames$Scribe", 43, "ApartGames$Game", "annAnswers", "I", "ApartGames"),
  ("ApartGames$Table", 74, "ApartGames$Game", "annAnswers", "I", "ApartGames"),
  ("ApartGames$Shape", 64, "ApartGames$Game", "annAnswers", "I", "ApartGames"),
  ("ApartGames$Tape", 87, "ApartGames$Game", "annAnswers", "I", "ApartGames"),
  ("ApartGames", 239, "ApartGames$Game", "annAnswers", "I", "ApartGames"),
  ("ApartGames$Scribe", 46, "ApartGames$Game", "benAnswers", "I", "ApartGames"),
  ("ApartGames$Table", 80, "ApartGames$Game", "benAnswers", "I", "ApartGames"),
  ("ApartGames$Shape", 67, "ApartGames$Game", "benAnswers", "I", "ApartGames"),
  ("ApartGames$Tape", 90, "ApartGames$Game", "benAnswers", "I", "ApartGames"),
  ("ApartGames$Duo", 59, "ApartGames$Game", "benAnswers", "I", "ApartGames"),
  ("ApartGames", 242, "ApartGames$Game", "benAnswers", "I", "ApartGames"),
  ("ApartGames$Scribe", 68, "ApartGames$Game", "weights", "[I", "ApartGames"),
  ("ApartGames$Shape", 40, "ApartGames$Game", "weights", "[I", "ApartGames"),
  ("ApartGames", 101, "ApartGames$Game", "weights", "[I", "ApartGames"),
  ("ApartGames$Table", 87, "ApartGames$Game", "weights", "[I", "ApartGames"),
  ("ApartGames$Tape", 80, "ApartGames$Game", "weights", "[I", "ApartGames"),
  ("ApartGames$Scribe", 55, "ApartGames$Game", "winning", "[I", "ApartGames"),
  ("ApartGames", 117, "ApartGames$Game", "winning", "[I", "ApartGames"),
  ("ApartGames$Table", 94, "ApartGames$Game", "winning", "[I", "ApartGames"),
  ("ApartGames$Shape", 70, "ApartGames$Game", "winning", "[I", "ApartGames"),
  ("ApartGames$Tape", 100, "ApartGames$Game", "winning", "[I", "ApartGames"),
  ("ApartGames$Scribe", 65, "ApartGames$Game", "boxes", "[I", "ApartGames"),
  ("ApartGames$Tape", 97, "ApartGames$Game", "boxes", "[I", "ApartGames"),
  ("ApartGames", 154, "ApartGames$Game", "boxes", "[I", "ApartGames"),
  ("ApartGames$Duo", 91, "ApartGames$Game", "boxes", "[I", "ApartGames"),
  ("ApartGames", 175, "ApartGames$Past", "size", "I", "ApartGames"),
  ("ApartGames", 316, "ApartGames$Scribe", "found", "I", "ApartGames")]
def ZLk (o : String) (idx : Nat) (M : ZMeth) : Prop := Cond.methodLink o idx M.1 ∈ zWs ∨ ∃ host, (o, idx, M.1, host) ∈ zNM
def ZGet (o : String) (idx c k : Nat) : Prop := ∃ (C : String) (T : u_T) (N : Nat) (ty : Nat → FieldType), zCl[c]? = some (C, T, N) ∧ (∀ w ∈ u_ws C T N, w ∈ zWs) ∧ k < N ∧ N = (zTags.getD c []).length ∧ (∀ a, a < N → ∀ b, b < N → a ≠ b → (T a).2.1 ≠ (T b).2.1) ∧ (∀ k, k < N → parseFieldDescriptor (T k).2.2.1 = some (ty k)) ∧ (Cond.fieldLink o idx (T k).1 (T k).2.1 (T k).2.2.1 ∈ zWs ∨ ∃ host, (o, idx, (T k).1, (T k).2.1, (T k).2.2.1, host) ∈ zNF) ∧ ((ztag c k = 0 ∧ ty k = .int) ∨ (ztag c k = 2 ∧ ((∃ t, ty k = .array t) ∨ ∃ t, ty k = .object t)))
/-- a field that may be written: none that is final, or its own class in a constructor -/
def ZPut (M : ZMeth) (idx c k : Nat) : Prop := ∃ (C : String) (T : u_T) (N : Nat), zCl[c]? = some (C, T, N) ∧ ((T k).2.2.2 = false ∨ ((T k).2.2.2 = true ∧ M.1.name = "<init>" ∧ (T k).1 = M.1.cls ∧ Cond.fieldLink M.1.cls idx (T k).1 (T k).2.1 (T k).2.2.1 ∈ zWs))
abbrev M_Ap_init : ZMeth := (⟨"ApartGames", "<init>", "()V"⟩, prog_1_method_1_code, 1, none)
abbrev M_Obj_init : ZMeth := (⟨"java/lang/Object", "<init>", "()V"⟩, object_method_1_code, 1, none)
abbrev M_Tape_init : ZMeth := (⟨"ApartGames$Tape", "<init>", "()V"⟩, prog_8_method_1_code, 1, none)
abbrev M_Past_init : ZMeth := (⟨"ApartGames$Past", "<init>", "()V"⟩, prog_4_method_1_code, 1, none)
abbrev M_Game_init : ZMeth := (⟨"ApartGames$Game", "<init>", "()V"⟩, prog_3_method_1_code, 1, none)
abbrev M_Table_init : ZMeth := (⟨"ApartGames$Table", "<init>", "()V"⟩, prog_7_method_1_code, 1, none)
abbrev M_Duo_init : ZMeth := (⟨"ApartGames$Duo", "<init>", "()V"⟩, prog_2_method_1_code, 1, none)
abbrev M_Shape_init : ZMeth := (⟨"ApartGames$Shape", "<init>", "()V"⟩, prog_6_method_1_code, 1, none)
abbrev M_Scribe_init : ZMeth := (⟨"ApartGames$Scribe", "<init>", "()V"⟩, prog_5_method_1_code, 1, none)
abbrev M_Ap_feed : ZMeth := (⟨"ApartGames", "feed", "(IIIII)I"⟩, prog_1_method_2_code, 6, (some .int))
abbrev M_Tape_hasRoomForFive : ZMeth := (⟨"ApartGames$Tape", "hasRoomForFive", "()Z"⟩, prog_8_method_2_code, 1, (some .boolean))
abbrev M_Tape_addNumber : ZMeth := (⟨"ApartGames$Tape", "addNumber", "(I)V"⟩, prog_8_method_3_code, 3, none)
abbrev M_Ap_end : ZMeth := (⟨"ApartGames", "end", "(I)I"⟩, prog_1_method_3_code, 2, (some .int))
abbrev M_Ap_tell : ZMeth := (⟨"ApartGames", "tell", "()I"⟩, prog_1_method_4_code, 2, (some .int))
abbrev M_Tape_readInto : ZMeth := (⟨"ApartGames$Tape", "readInto", "(LApartGames$Game;)I"⟩, prog_8_method_4_code, 3, (some .int))
abbrev M_Tape_readHead : ZMeth := (⟨"ApartGames$Tape", "readHead", "(LApartGames$Game;)V"⟩, prog_8_method_5_code, 7, none)
abbrev M_Tape_skipBlanks : ZMeth := (⟨"ApartGames$Tape", "skipBlanks", "()V"⟩, prog_8_method_15_code, 1, none)
abbrev M_Tape_behindWord : ZMeth := (⟨"ApartGames$Tape", "behindWord", "()I"⟩, prog_8_method_12_code, 2, (some .int))
abbrev M_Tape_isWord : ZMeth := (⟨"ApartGames$Tape", "isWord", "(Ljava/lang/String;I)Z"⟩, prog_8_method_13_code, 4, (some .boolean))
abbrev M_Str_length : ZMeth := (⟨"java/lang/String", "length", "()I"⟩, prog_12_method_54_code, 1, (some .int))
abbrev M_Str_coder : ZMeth := (⟨"java/lang/String", "coder", "()B"⟩, prog_12_method_152_code, 1, (some .byte))
abbrev M_Str_charAt : ZMeth := (⟨"java/lang/String", "charAt", "(I)C"⟩, prog_12_method_56_code, 2, (some .char))
abbrev M_Str_isLatin1 : ZMeth := (⟨"java/lang/String", "isLatin1", "()Z"⟩, prog_12_method_154_code, 1, (some .boolean))
abbrev M_Lat_charAt : ZMeth := (⟨"java/lang/StringLatin1", "charAt", "([BI)C"⟩, prog_13_method_2_code, 2, (some .char))
abbrev M_Str_checkIndex : ZMeth := (⟨"java/lang/String", "checkIndex", "(II)V"⟩, prog_12_method_155_code, 2, none)
abbrev M_Pre_checkIndex : ZMeth := (⟨"jdk/internal/util/Preconditions", "checkIndex", "(IILjava/util/function/BiFunction;)I"⟩, prog_16_method_11_code, 3, (some .int))
abbrev M_U16_charAt : ZMeth := (⟨"java/lang/StringUTF16", "charAt", "([BI)C"⟩, prog_14_method_83_code, 2, (some .char))
abbrev M_U16_checkIndex : ZMeth := (⟨"java/lang/StringUTF16", "checkIndex", "(I[B)V"⟩, prog_14_method_91_code, 2, none)
abbrev M_U16_length : ZMeth := (⟨"java/lang/StringUTF16", "length", "([B)I"⟩, prog_14_method_6_code, 1, (some .int))
abbrev M_U16_getChar : ZMeth := (⟨"java/lang/StringUTF16", "getChar", "([BI)C"⟩, prog_14_method_5_code, 2, (some .char))
abbrev M_Tape_blame : ZMeth := (⟨"ApartGames$Tape", "blame", "(II)V"⟩, prog_8_method_16_code, 3, none)
abbrev M_Tape_readNumber : ZMeth := (⟨"ApartGames$Tape", "readNumber", "(II)I"⟩, prog_8_method_14_code, 5, (some .int))
abbrev M_Math_min : ZMeth := (⟨"java/lang/Math", "min", "(II)I"⟩, prog_11_method_69_code, 2, (some .int))
abbrev M_Game_start : ZMeth := (⟨"ApartGames$Game", "start", "(IIII)V"⟩, prog_3_method_5_code, 6, none)
abbrev M_Tape_readPart : ZMeth := (⟨"ApartGames$Tape", "readPart", "(LApartGames$Game;)V"⟩, prog_8_method_6_code, 6, none)
abbrev M_Tape_kindOfWord : ZMeth := (⟨"ApartGames$Tape", "kindOfWord", "(I)I"⟩, prog_8_method_11_code, 2, (some .int))
abbrev M_Tape_readWeight : ZMeth := (⟨"ApartGames$Tape", "readWeight", "(LApartGames$Game;II)V"⟩, prog_8_method_7_code, 5, none)
abbrev M_Ap_cellOf : ZMeth := (⟨"ApartGames", "cellOf", "(III)I"⟩, prog_1_method_51_code, 3, (some .int))
abbrev M_Tape_readSpot : ZMeth := (⟨"ApartGames$Tape", "readSpot", "(LApartGames$Game;III)V"⟩, prog_8_method_8_code, 9, none)
abbrev M_Ap_spotOf : ZMeth := (⟨"ApartGames", "spotOf", "(IIIII)I"⟩, prog_1_method_52_code, 5, (some .int))
abbrev M_Tape_winWhere : ZMeth := (⟨"ApartGames$Tape", "winWhere", "(LApartGames$Game;III)V"⟩, prog_8_method_9_code, 6, none)
abbrev M_Tape_suits : ZMeth := (⟨"ApartGames$Tape", "suits", "(III)Z"⟩, prog_8_method_10_code, 3, (some .boolean))
abbrev M_Ap_takeSpare : ZMeth := (⟨"ApartGames", "takeSpare", "()V"⟩, prog_1_method_45_code, 2, none)
abbrev M_Past_forget : ZMeth := (⟨"ApartGames$Past", "forget", "()V"⟩, prog_4_method_4_code, 1, none)
abbrev M_Ap_weigh : ZMeth := (⟨"ApartGames", "weigh", "(III)I"⟩, prog_1_method_5_code, 6, (some .int))
abbrev M_Game_hasCell : ZMeth := (⟨"ApartGames$Game", "hasCell", "(II)Z"⟩, prog_3_method_12_code, 3, (some .boolean))
abbrev M_Game_hasQuestion : ZMeth := (⟨"ApartGames$Game", "hasQuestion", "(II)Z"⟩, prog_3_method_9_code, 3, (some .boolean))
abbrev M_Ap_isPlayer : ZMeth := (⟨"ApartGames", "isPlayer", "(I)Z"⟩, prog_1_method_50_code, 1, (some .boolean))
abbrev M_Game_questionsOf : ZMeth := (⟨"ApartGames$Game", "questionsOf", "(I)I"⟩, prog_3_method_7_code, 2, (some .int))
abbrev M_Past_remember : ZMeth := (⟨"ApartGames$Past", "remember", "(LApartGames$Game;)V"⟩, prog_4_method_2_code, 2, none)
abbrev M_Game_become : ZMeth := (⟨"ApartGames$Game", "become", "(LApartGames$Game;)V"⟩, prog_3_method_2_code, 2, none)
abbrev M_Ap_decide : ZMeth := (⟨"ApartGames", "decide", "(IIII)I"⟩, prog_1_method_6_code, 6, (some .int))
abbrev M_Game_hasSpot : ZMeth := (⟨"ApartGames$Game", "hasSpot", "(IIII)Z"⟩, prog_3_method_13_code, 5, (some .boolean))
abbrev M_Game_hasAnswer : ZMeth := (⟨"ApartGames$Game", "hasAnswer", "(II)Z"⟩, prog_3_method_10_code, 3, (some .boolean))
abbrev M_Game_answersOf : ZMeth := (⟨"ApartGames$Game", "answersOf", "(I)I"⟩, prog_3_method_8_code, 2, (some .int))
abbrev M_Ap_parity : ZMeth := (⟨"ApartGames", "parity", "(III)I"⟩, prog_1_method_7_code, 4, (some .int))
abbrev M_Game_signAt : ZMeth := (⟨"ApartGames$Game", "signAt", "(II)I"⟩, prog_3_method_31_code, 8, (some .int))
abbrev M_Game_winByParity : ZMeth := (⟨"ApartGames$Game", "winByParity", "(III)V"⟩, prog_3_method_15_code, 6, none)
abbrev M_Ap_exchange : ZMeth := (⟨"ApartGames", "exchange", "(IIII)I"⟩, prog_1_method_8_code, 5, (some .int))
abbrev M_Game_hasTwoAnswers : ZMeth := (⟨"ApartGames$Game", "hasTwoAnswers", "(IIII)Z"⟩, prog_3_method_11_code, 5, (some .boolean))
abbrev M_Game_exchangeAnswers : ZMeth := (⟨"ApartGames$Game", "exchangeAnswers", "(IIII)V"⟩, prog_3_method_16_code, 9, none)
abbrev M_Game_exchangeEntries : ZMeth := (⟨"ApartGames$Game", "exchangeEntries", "([III)V"⟩, prog_3_method_17_code, 4, none)
abbrev M_Ap_swap : ZMeth := (⟨"ApartGames", "swap", "()I"⟩, prog_1_method_9_code, 1, (some .int))
abbrev M_Game_isTold : ZMeth := (⟨"ApartGames$Game", "isTold", "()Z"⟩, prog_3_method_6_code, 1, (some .boolean))
abbrev M_Game_becomeFlipped : ZMeth := (⟨"ApartGames$Game", "becomeFlipped", "(LApartGames$Game;)V"⟩, prog_3_method_3_code, 4, none)
abbrev M_Game_flipAnswers : ZMeth := (⟨"ApartGames$Game", "flipAnswers", "(LApartGames$Game;II)V"⟩, prog_3_method_4_code, 8, none)
abbrev M_Ap_drop : ZMeth := (⟨"ApartGames", "drop", "(II)I"⟩, prog_1_method_10_code, 3, (some .int))
abbrev M_Game_dropQuestion : ZMeth := (⟨"ApartGames$Game", "dropQuestion", "(II)I"⟩, prog_3_method_18_code, 5, (some .int))
abbrev M_Game_copyOver : ZMeth := (⟨"ApartGames$Game", "copyOver", "(III)V"⟩, prog_3_method_21_code, 9, none)
abbrev M_Game_setQuestions : ZMeth := (⟨"ApartGames$Game", "setQuestions", "(II)V"⟩, prog_3_method_20_code, 3, none)
abbrev M_Ap_copy : ZMeth := (⟨"ApartGames", "copy", "(II)I"⟩, prog_1_method_11_code, 3, (some .int))
abbrev M_Game_addQuestionLike : ZMeth := (⟨"ApartGames$Game", "addQuestionLike", "(II)I"⟩, prog_3_method_19_code, 4, (some .int))
abbrev M_Ap_box : ZMeth := (⟨"ApartGames", "box", "(IIIII)I"⟩, prog_1_method_12_code, 8, (some .int))
abbrev M_Ap_mix : ZMeth := (⟨"ApartGames", "mix", "(III)I"⟩, prog_1_method_13_code, 4, (some .int))
abbrev M_Duo_takeBoth : ZMeth := (⟨"ApartGames$Duo", "takeBoth", "(LApartGames$Game;II)Z"⟩, prog_2_method_3_code, 4, (some .boolean))
abbrev M_Duo_take : ZMeth := (⟨"ApartGames$Duo", "take", "(LApartGames$Game;II)Z"⟩, prog_2_method_4_code, 7, (some .boolean))
abbrev M_Duo_answersBy : ZMeth := (⟨"ApartGames$Duo", "answersBy", "(I)[I"⟩, prog_2_method_2_code, 2, (some (.array .int)))
abbrev M_Duo_greatestBox : ZMeth := (⟨"ApartGames$Duo", "greatestBox", "(LApartGames$Game;)I"⟩, prog_2_method_13_code, 5, (some .int))
abbrev M_Math_max : ZMeth := (⟨"java/lang/Math", "max", "(II)I"⟩, prog_11_method_65_code, 2, (some .int))
abbrev M_Duo_addToBoxes : ZMeth := (⟨"ApartGames$Duo", "addToBoxes", "(LApartGames$Game;I)V"⟩, prog_2_method_14_code, 5, none)
abbrev M_Ap_draw : ZMeth := (⟨"ApartGames", "draw", "(I)I"⟩, prog_1_method_14_code, 2, (some .int))
abbrev M_Game_drawAll : ZMeth := (⟨"ApartGames$Game", "drawAll", "(I)V"⟩, prog_3_method_22_code, 7, none)
abbrev M_Game_nextState : ZMeth := (⟨"ApartGames$Game", "nextState", "(I)I"⟩, prog_3_method_23_code, 1, (some .int))
abbrev M_Game_winningSpots : ZMeth := (⟨"ApartGames$Game", "winningSpots", "()I"⟩, prog_3_method_26_code, 4, (some .int))
abbrev M_Game_winningAt : ZMeth := (⟨"ApartGames$Game", "winningAt", "(II)I"⟩, prog_3_method_25_code, 6, (some .int))
abbrev M_Ap_undo : ZMeth := (⟨"ApartGames", "undo", "()I"⟩, prog_1_method_15_code, 1, (some .int))
abbrev M_Past_restore : ZMeth := (⟨"ApartGames$Past", "restore", "(LApartGames$Game;)V"⟩, prog_4_method_3_code, 2, none)
abbrev M_Ap_keep : ZMeth := (⟨"ApartGames", "keep", "(I)I"⟩, prog_1_method_16_code, 2, (some .int))
abbrev M_Ap_back : ZMeth := (⟨"ApartGames", "back", "(I)I"⟩, prog_1_method_17_code, 2, (some .int))
abbrev M_Ap_wins : ZMeth := (⟨"ApartGames", "wins", "(IIII)I"⟩, prog_1_method_18_code, 5, (some .int))
abbrev M_Ap_weight : ZMeth := (⟨"ApartGames", "weight", "(II)I"⟩, prog_1_method_19_code, 3, (some .int))
abbrev M_Ap_worth : ZMeth := (⟨"ApartGames", "worth", "(I)I"⟩, prog_1_method_20_code, 2, (some .int))
abbrev M_Ap_mostOf : ZMeth := (⟨"ApartGames", "mostOf", "(LApartGames$Game;)I"⟩, prog_1_method_46_code, 2, (some .int))
abbrev M_Table_loadSome : ZMeth := (⟨"ApartGames$Table", "loadSome", "(LApartGames$Game;II)V"⟩, prog_7_method_3_code, 5, none)
abbrev M_Table_setSizes : ZMeth := (⟨"ApartGames$Table", "setSizes", "(IIII)V"⟩, prog_7_method_2_code, 5, none)
abbrev M_Table_loadQuestion : ZMeth := (⟨"ApartGames$Table", "loadQuestion", "(LApartGames$Game;II)V"⟩, prog_7_method_4_code, 8, none)
abbrev M_Game_gain : ZMeth := (⟨"ApartGames$Game", "gain", "(IIIII)I"⟩, prog_3_method_14_code, 6, (some .int))
abbrev M_Table_mostAbove : ZMeth := (⟨"ApartGames$Table", "mostAbove", "(I)I"⟩, prog_7_method_32_code, 2, (some .int))
abbrev M_Table_clearFirstSums : ZMeth := (⟨"ApartGames$Table", "clearFirstSums", "()V"⟩, prog_7_method_12_code, 2, none)
abbrev M_Table_fillHopes : ZMeth := (⟨"ApartGames$Table", "fillHopes", "()V"⟩, prog_7_method_37_code, 4, none)
abbrev M_Table_greatestGain : ZMeth := (⟨"ApartGames$Table", "greatestGain", "(II)I"⟩, prog_7_method_38_code, 6, (some .int))
abbrev M_Table_markNeedless : ZMeth := (⟨"ApartGames$Table", "markNeedless", "()V"⟩, prog_7_method_34_code, 4, none)
abbrev M_Table_isCovered : ZMeth := (⟨"ApartGames$Table", "isCovered", "(II)Z"⟩, prog_7_method_35_code, 4, (some .boolean))
abbrev M_Table_covers : ZMeth := (⟨"ApartGames$Table", "covers", "(II)Z"⟩, prog_7_method_36_code, 4, (some .boolean))
abbrev M_Table_hopeAt : ZMeth := (⟨"ApartGames$Table", "hopeAt", "(I)I"⟩, prog_7_method_39_code, 7, (some .int))
abbrev M_Table_search : ZMeth := (⟨"ApartGames$Table", "search", "(LApartGames$Table;I)V"⟩, prog_7_method_33_code, 4, none)
abbrev M_Table_addLine : ZMeth := (⟨"ApartGames$Table", "addLine", "(II)V"⟩, prog_7_method_14_code, 7, none)
abbrev M_Game_weightTogether : ZMeth := (⟨"ApartGames$Game", "weightTogether", "()I"⟩, prog_3_method_24_code, 4, (some .int))
abbrev M_Table_leastLow : ZMeth := (⟨"ApartGames$Table", "leastLow", "()I"⟩, prog_7_method_19_code, 4, (some .int))
abbrev M_Table_rows : ZMeth := (⟨"ApartGames$Table", "rows", "()I"⟩, prog_7_method_9_code, 3, (some .int))
abbrev M_Table_begin : ZMeth := (⟨"ApartGames$Table", "begin", "()V"⟩, prog_7_method_10_code, 2, none)
abbrev M_Table_sumFrom : ZMeth := (⟨"ApartGames$Table", "sumFrom", "(I)V"⟩, prog_7_method_13_code, 3, none)
abbrev M_Table_low : ZMeth := (⟨"ApartGames$Table", "low", "()I"⟩, prog_7_method_18_code, 3, (some .int))
abbrev M_Table_lowAt : ZMeth := (⟨"ApartGames$Table", "lowAt", "(I)I"⟩, prog_7_method_16_code, 5, (some .int))
abbrev M_Table_step : ZMeth := (⟨"ApartGames$Table", "step", "()V"⟩, prog_7_method_11_code, 2, none)
abbrev M_Table_mostLow : ZMeth := (⟨"ApartGames$Table", "mostLow", "()I"⟩, prog_7_method_20_code, 4, (some .int))
abbrev M_Ap_sure : ZMeth := (⟨"ApartGames", "sure", "(I)I"⟩, prog_1_method_21_code, 2, (some .int))
abbrev M_Table_firstRowOfLow : ZMeth := (⟨"ApartGames$Table", "firstRowOfLow", "(I)I"⟩, prog_7_method_21_code, 4, (some .int))
abbrev M_Duo_numberOf : ZMeth := (⟨"ApartGames$Duo", "numberOf", "([II)I"⟩, prog_2_method_7_code, 4, (some .int))
abbrev M_Ap_play : ZMeth := (⟨"ApartGames", "play", "(II)I"⟩, prog_1_method_22_code, 3, (some .int))
abbrev M_Duo_worthBoth : ZMeth := (⟨"ApartGames$Duo", "worthBoth", "(LApartGames$Game;)I"⟩, prog_2_method_8_code, 4, (some .int))
abbrev M_Duo_worthAt : ZMeth := (⟨"ApartGames$Duo", "worthAt", "(LApartGames$Game;III)I"⟩, prog_2_method_9_code, 8, (some .int))
abbrev M_Ap_hangs : ZMeth := (⟨"ApartGames", "hangs", "(II)I"⟩, prog_1_method_23_code, 3, (some .int))
abbrev M_Duo_spanAt : ZMeth := (⟨"ApartGames$Duo", "spanAt", "(LApartGames$Game;I)I"⟩, prog_2_method_10_code, 7, (some .int))
abbrev M_Ap_reply : ZMeth := (⟨"ApartGames", "reply", "(II)I"⟩, prog_1_method_24_code, 3, (some .int))
abbrev M_Duo_answerBest : ZMeth := (⟨"ApartGames$Duo", "answerBest", "(LApartGames$Game;I)I"⟩, prog_2_method_11_code, 8, (some .int))
abbrev M_Duo_bestReply : ZMeth := (⟨"ApartGames$Duo", "bestReply", "(LApartGames$Game;I)I"⟩, prog_2_method_6_code, 3, (some .int))
abbrev M_Ap_bests : ZMeth := (⟨"ApartGames", "bests", "()J"⟩, prog_1_method_25_code, 2, (some .long))
abbrev M_Table_countTops : ZMeth := (⟨"ApartGames$Table", "countTops", "(I)J"⟩, prog_7_method_25_code, 6, (some .long))
abbrev M_Table_high : ZMeth := (⟨"ApartGames$Table", "high", "()I"⟩, prog_7_method_17_code, 3, (some .int))
abbrev M_Table_highAt : ZMeth := (⟨"ApartGames$Table", "highAt", "(I)I"⟩, prog_7_method_15_code, 5, (some .int))
abbrev M_Table_topRowsFrom : ZMeth := (⟨"ApartGames$Table", "topRowsFrom", "(I)I"⟩, prog_7_method_24_code, 4, (some .int))
abbrev M_Table_topReplies : ZMeth := (⟨"ApartGames$Table", "topReplies", "(I)I"⟩, prog_7_method_23_code, 6, (some .int))
abbrev M_Ap_best : ZMeth := (⟨"ApartGames", "best", "(II)I"⟩, prog_1_method_26_code, 4, (some .int))
abbrev M_Table_rowOfTop : ZMeth := (⟨"ApartGames$Table", "rowOfTop", "(III)I"⟩, prog_7_method_29_code, 8, (some .int))
abbrev M_Table_findTopReplies : ZMeth := (⟨"ApartGames$Table", "findTopReplies", "(I)V"⟩, prog_7_method_30_code, 5, none)
abbrev M_Table_topReplyAt : ZMeth := (⟨"ApartGames$Table", "topReplyAt", "(II)I"⟩, prog_7_method_31_code, 5, (some .int))
abbrev M_Table_isTopReply : ZMeth := (⟨"ApartGames$Table", "isTopReply", "(II)Z"⟩, prog_7_method_22_code, 3, (some .boolean))
abbrev M_Ap_lost : ZMeth := (⟨"ApartGames", "lost", "(II)J"⟩, prog_1_method_27_code, 4, (some .long))
abbrev M_Table_countTopsLosing : ZMeth := (⟨"ApartGames$Table", "countTopsLosing", "(LApartGames$Game;III)J"⟩, prog_7_method_26_code, 9, (some .long))
abbrev M_Table_topRowsLosing : ZMeth := (⟨"ApartGames$Table", "topRowsLosing", "(LApartGames$Game;II)I"⟩, prog_7_method_27_code, 6, (some .int))
abbrev M_Table_topRepliesLosing : ZMeth := (⟨"ApartGames$Table", "topRepliesLosing", "(LApartGames$Game;II)I"⟩, prog_7_method_28_code, 6, (some .int))
abbrev M_Ap_mean : ZMeth := (⟨"ApartGames", "mean", "(I)J"⟩, prog_1_method_28_code, 5, (some .long))
abbrev M_Game_weightOfWinningSpots : ZMeth := (⟨"ApartGames$Game", "weightOfWinningSpots", "()I"⟩, prog_3_method_27_code, 4, (some .int))
abbrev M_Ap_commonDivisor : ZMeth := (⟨"ApartGames", "commonDivisor", "(II)I"⟩, prog_1_method_53_code, 6, (some .int))
abbrev M_Ap_talk : ZMeth := (⟨"ApartGames", "talk", "(I)I"⟩, prog_1_method_29_code, 7, (some .int))
abbrev M_Ap_mostAsked : ZMeth := (⟨"ApartGames", "mostAsked", "(I)I"⟩, prog_1_method_47_code, 2, (some .int))
abbrev M_Ap_without : ZMeth := (⟨"ApartGames", "without", "(II)I"⟩, prog_1_method_30_code, 4, (some .int))
abbrev M_Ap_lesser : ZMeth := (⟨"ApartGames", "lesser", "(IIII)I"⟩, prog_1_method_31_code, 5, (some .int))
abbrev M_Game_isLesser : ZMeth := (⟨"ApartGames$Game", "isLesser", "(IIII)Z"⟩, prog_3_method_28_code, 7, (some .boolean))
abbrev M_Ap_same : ZMeth := (⟨"ApartGames", "same", "(III)I"⟩, prog_1_method_32_code, 4, (some .int))
abbrev M_Game_areSame : ZMeth := (⟨"ApartGames$Game", "areSame", "(III)Z"⟩, prog_3_method_29_code, 5, (some .boolean))
abbrev M_Game_areSameSpots : ZMeth := (⟨"ApartGames$Game", "areSameSpots", "(IIII)Z"⟩, prog_3_method_30_code, 9, (some .boolean))
abbrev M_Ap_climb : ZMeth := (⟨"ApartGames", "climb", "(III)I"⟩, prog_1_method_33_code, 5, (some .int))
abbrev M_Duo_climbUp : ZMeth := (⟨"ApartGames$Duo", "climbUp", "(LApartGames$Game;)I"⟩, prog_2_method_12_code, 8, (some .int))
abbrev M_Duo_rowOf : ZMeth := (⟨"ApartGames$Duo", "rowOf", "(LApartGames$Game;I)I"⟩, prog_2_method_5_code, 3, (some .int))
abbrev M_Ap_cut : ZMeth := (⟨"ApartGames", "cut", "(II)I"⟩, prog_1_method_34_code, 3, (some .int))
abbrev M_Ap_parts : ZMeth := (⟨"ApartGames", "parts", "(I)I"⟩, prog_1_method_35_code, 2, (some .int))
abbrev M_Shape_partsOf : ZMeth := (⟨"ApartGames$Shape", "partsOf", "(LApartGames$Game;)I"⟩, prog_6_method_2_code, 4, (some .int))
abbrev M_Shape_markParts : ZMeth := (⟨"ApartGames$Shape", "markParts", "(LApartGames$Game;)V"⟩, prog_6_method_4_code, 4, none)
abbrev M_Shape_joinParts : ZMeth := (⟨"ApartGames$Shape", "joinParts", "(II)V"⟩, prog_6_method_5_code, 5, none)
abbrev M_Shape_greatestPartOf : ZMeth := (⟨"ApartGames$Shape", "greatestPartOf", "(LApartGames$Game;)I"⟩, prog_6_method_3_code, 6, (some .int))
abbrev M_Ap_sign : ZMeth := (⟨"ApartGames", "sign", "(II)I"⟩, prog_1_method_36_code, 3, (some .int))
abbrev M_Ap_bias : ZMeth := (⟨"ApartGames", "bias", "(I)I"⟩, prog_1_method_37_code, 2, (some .int))
abbrev M_Game_isParityGame : ZMeth := (⟨"ApartGames$Game", "isParityGame", "()Z"⟩, prog_3_method_32_code, 3, (some .boolean))
abbrev M_Ap_mostBias : ZMeth := (⟨"ApartGames", "mostBias", "()I"⟩, prog_1_method_48_code, 1, (some .int))
abbrev M_Game_squares : ZMeth := (⟨"ApartGames$Game", "squares", "(Z)I"⟩, prog_3_method_34_code, 5, (some .int))
abbrev M_Game_squaresOfTwo : ZMeth := (⟨"ApartGames$Game", "squaresOfTwo", "(IIZ)I"⟩, prog_3_method_35_code, 9, (some .int))
abbrev M_Game_signedWeight : ZMeth := (⟨"ApartGames$Game", "signedWeight", "(II)I"⟩, prog_3_method_33_code, 3, (some .int))
abbrev M_Ap_twice : ZMeth := (⟨"ApartGames", "twice", "(I)I"⟩, prog_1_method_38_code, 6, (some .int))
abbrev M_Ap_rowsTwice : ZMeth := (⟨"ApartGames", "rowsTwice", "()I"⟩, prog_1_method_49_code, 5, (some .int))
abbrev M_Table_loadTwice : ZMeth := (⟨"ApartGames$Table", "loadTwice", "(LApartGames$Game;Z)V"⟩, prog_7_method_5_code, 8, none)
abbrev M_Table_loadTwiceLine : ZMeth := (⟨"ApartGames$Table", "loadTwiceLine", "(LApartGames$Game;IIIIIZ)V"⟩, prog_7_method_6_code, 16, none)
abbrev M_Ap_product : ZMeth := (⟨"ApartGames", "product", "()I"⟩, prog_1_method_39_code, 2, (some .int))
abbrev M_Table_loadWithItself : ZMeth := (⟨"ApartGames$Table", "loadWithItself", "(LApartGames$Game;)V"⟩, prog_7_method_7_code, 5, none)
abbrev M_Table_loadWithItselfLines : ZMeth := (⟨"ApartGames$Table", "loadWithItselfLines", "(LApartGames$Game;III)V"⟩, prog_7_method_8_code, 10, none)
abbrev M_Ap_boxed : ZMeth := (⟨"ApartGames", "boxed", "(I)I"⟩, prog_1_method_40_code, 2, (some .int))
abbrev M_Game_boxWorth : ZMeth := (⟨"ApartGames$Game", "boxWorth", "()I"⟩, prog_3_method_36_code, 6, (some .int))
abbrev M_Game_isWhole : ZMeth := (⟨"ApartGames$Game", "isWhole", "()Z"⟩, prog_3_method_37_code, 5, (some .boolean))
abbrev M_Game_howOften : ZMeth := (⟨"ApartGames$Game", "howOften", "(IIII)I"⟩, prog_3_method_38_code, 7, (some .int))
abbrev M_Game_signalsTo : ZMeth := (⟨"ApartGames$Game", "signalsTo", "(I)Z"⟩, prog_3_method_39_code, 6, (some .boolean))
abbrev M_Ap_marginal : ZMeth := (⟨"ApartGames", "marginal", "(IIII)I"⟩, prog_1_method_41_code, 5, (some .int))
abbrev M_Ap_symmetries : ZMeth := (⟨"ApartGames", "symmetries", "()I"⟩, prog_1_method_42_code, 1, (some .int))
abbrev M_Shape_ordersOf : ZMeth := (⟨"ApartGames$Shape", "ordersOf", "(LApartGames$Game;)I"⟩, prog_6_method_6_code, 5, (some .int))
abbrev M_Shape_noteLooks : ZMeth := (⟨"ApartGames$Shape", "noteLooks", "(LApartGames$Game;)V"⟩, prog_6_method_7_code, 7, none)
abbrev M_Shape_setOrder : ZMeth := (⟨"ApartGames$Shape", "setOrder", "(II)V"⟩, prog_6_method_8_code, 7, none)
abbrev M_Shape_freePlace : ZMeth := (⟨"ApartGames$Shape", "freePlace", "(III)I"⟩, prog_6_method_9_code, 5, (some .int))
abbrev M_Shape_ordersOfBen : ZMeth := (⟨"ApartGames$Shape", "ordersOfBen", "(LApartGames$Game;)I"⟩, prog_6_method_10_code, 8, (some .int))
abbrev M_Shape_looksLike : ZMeth := (⟨"ApartGames$Shape", "looksLike", "(III)Z"⟩, prog_6_method_11_code, 5, (some .boolean))
abbrev M_Ap_letter : ZMeth := (⟨"ApartGames", "letter", "(I)I"⟩, prog_1_method_43_code, 3, (some .int))
abbrev M_Scribe_write : ZMeth := (⟨"ApartGames$Scribe", "write", "(LApartGames$Game;I)I"⟩, prog_5_method_2_code, 3, (some .int))
abbrev M_Scribe_writeWord : ZMeth := (⟨"ApartGames$Scribe", "writeWord", "(Ljava/lang/String;)V"⟩, prog_5_method_7_code, 3, none)
abbrev M_Scribe_put : ZMeth := (⟨"ApartGames$Scribe", "put", "(I)V"⟩, prog_5_method_9_code, 2, none)
abbrev M_Scribe_writeNumber : ZMeth := (⟨"ApartGames$Scribe", "writeNumber", "(I)V"⟩, prog_5_method_8_code, 2, none)
abbrev M_Scribe_writeWeights : ZMeth := (⟨"ApartGames$Scribe", "writeWeights", "(LApartGames$Game;)V"⟩, prog_5_method_3_code, 5, none)
abbrev M_Scribe_writeSpots : ZMeth := (⟨"ApartGames$Scribe", "writeSpots", "(LApartGames$Game;Ljava/lang/String;[IZ)V"⟩, prog_5_method_4_code, 10, none)
abbrev M_Scribe_writeSpot : ZMeth := (⟨"ApartGames$Scribe", "writeSpot", "(IIII)V"⟩, prog_5_method_5_code, 5, none)
abbrev M_Scribe_writeEntry : ZMeth := (⟨"ApartGames$Scribe", "writeEntry", "(IZ)V"⟩, prog_5_method_6_code, 3, none)
abbrev M_Ap_count : ZMeth := (⟨"ApartGames", "count", "(I)I"⟩, prog_1_method_44_code, 2, (some .int))
abbrev M_Mo_init : ZMeth := (⟨"ApartGamesModel", "<init>", "()V"⟩, prog_10_method_1_code, 1, none)
abbrev M_Mo_feed : ZMeth := (⟨"ApartGamesModel", "feed", "(IIIII)I"⟩, prog_10_method_7_code, 6, (some .int))
abbrev M_Mo_puts : ZMeth := (⟨"ApartGamesModel", "puts", "(I)V"⟩, prog_10_method_8_code, 3, none)
abbrev M_Mo_end : ZMeth := (⟨"ApartGamesModel", "end", "(I)I"⟩, prog_10_method_9_code, 2, (some .int))
abbrev M_Mo_tell : ZMeth := (⟨"ApartGamesModel", "tell", "()I"⟩, prog_10_method_18_code, 3, (some .int))
abbrev M_Mo_takes : ZMeth := (⟨"ApartGamesModel", "takes", "(Ljava/lang/String;)Z"⟩, prog_10_method_14_code, 5, (some .boolean))
abbrev M_Mo_next : ZMeth := (⟨"ApartGamesModel", "next", "()I"⟩, prog_10_method_11_code, 1, (some .int))
abbrev M_Mo_sign_0 : ZMeth := (⟨"ApartGamesModel", "sign", "()I"⟩, prog_10_method_10_code, 1, (some .int))
abbrev M_Mo_in : ZMeth := (⟨"ApartGamesModel", "in", "(JJJ)Z"⟩, prog_10_method_2_code, 6, (some .boolean))
abbrev M_Mo_fails : ZMeth := (⟨"ApartGamesModel", "fails", "(II)V"⟩, prog_10_method_13_code, 3, none)
abbrev M_Mo_isRight : ZMeth := (⟨"ApartGamesModel", "isRight", "()Z"⟩, prog_10_method_12_code, 1, (some .boolean))
abbrev M_Mo_number : ZMeth := (⟨"ApartGamesModel", "number", "(II)I"⟩, prog_10_method_15_code, 4, (some .int))
abbrev M_Mo_twoOf : ZMeth := (⟨"ApartGamesModel", "twoOf", "(II)I"⟩, prog_10_method_5_code, 2, (some .int))
abbrev M_Mo_readsPart : ZMeth := (⟨"ApartGamesModel", "readsPart", "()V"⟩, prog_10_method_17_code, 13, none)
abbrev M_Mo_readsWins : ZMeth := (⟨"ApartGamesModel", "readsWins", "(ZZZZII)V"⟩, prog_10_method_16_code, 10, none)
abbrev M_Mo_fourOf : ZMeth := (⟨"ApartGamesModel", "fourOf", "(IIII)I"⟩, prog_10_method_6_code, 4, (some .int))
abbrev M_Mo_moves : ZMeth := (⟨"ApartGamesModel", "moves", "([II[II)V"⟩, prog_10_method_4_code, 5, none)
abbrev M_Mo_undo : ZMeth := (⟨"ApartGamesModel", "undo", "()I"⟩, prog_10_method_33_code, 1, (some .int))
abbrev M_Mo_keep : ZMeth := (⟨"ApartGamesModel", "keep", "(I)I"⟩, prog_10_method_34_code, 2, (some .int))
abbrev M_Mo_back : ZMeth := (⟨"ApartGamesModel", "back", "(I)I"⟩, prog_10_method_35_code, 2, (some .int))
abbrev M_Mo_weigh : ZMeth := (⟨"ApartGamesModel", "weigh", "(III)I"⟩, prog_10_method_37_code, 4, (some .int))
abbrev M_Mo_areTwo : ZMeth := (⟨"ApartGamesModel", "areTwo", "(II)Z"⟩, prog_10_method_25_code, 3, (some .boolean))
abbrev M_Mo_isQuestion : ZMeth := (⟨"ApartGamesModel", "isQuestion", "(II)Z"⟩, prog_10_method_23_code, 3, (some .boolean))
abbrev M_Mo_questions : ZMeth := (⟨"ApartGamesModel", "questions", "(I)I"⟩, prog_10_method_20_code, 2, (some .int))
abbrev M_Mo_becomes : ZMeth := (⟨"ApartGamesModel", "becomes", "(II)I"⟩, prog_10_method_36_code, 4, (some .int))
abbrev M_Mo_keepsPast : ZMeth := (⟨"ApartGamesModel", "keepsPast", "()V"⟩, prog_10_method_32_code, 2, none)
abbrev M_Mo_box : ZMeth := (⟨"ApartGamesModel", "box", "(IIIII)I"⟩, prog_10_method_38_code, 6, (some .int))
abbrev M_Mo_areFour : ZMeth := (⟨"ApartGamesModel", "areFour", "(IIII)Z"⟩, prog_10_method_26_code, 5, (some .boolean))
abbrev M_Mo_isAnswer : ZMeth := (⟨"ApartGamesModel", "isAnswer", "(II)Z"⟩, prog_10_method_24_code, 3, (some .boolean))
abbrev M_Mo_answers : ZMeth := (⟨"ApartGamesModel", "answers", "(I)I"⟩, prog_10_method_21_code, 2, (some .int))
abbrev M_Mo_decide : ZMeth := (⟨"ApartGamesModel", "decide", "(IIII)I"⟩, prog_10_method_39_code, 5, (some .int))
abbrev M_Mo_parity : ZMeth := (⟨"ApartGamesModel", "parity", "(III)I"⟩, prog_10_method_41_code, 6, (some .int))
abbrev M_Mo_isParity : ZMeth := (⟨"ApartGamesModel", "isParity", "(III)Z"⟩, prog_10_method_40_code, 7, (some .boolean))
abbrev M_Mo_isWin : ZMeth := (⟨"ApartGamesModel", "isWin", "(IIII)Z"⟩, prog_10_method_28_code, 5, (some .boolean))
abbrev M_Mo_truth : ZMeth := (⟨"ApartGamesModel", "truth", "(Z)I"⟩, prog_10_method_3_code, 1, (some .int))
abbrev M_Mo_exchange : ZMeth := (⟨"ApartGamesModel", "exchange", "(IIII)I"⟩, prog_10_method_43_code, 9, (some .int))
abbrev M_Mo_isPlayer : ZMeth := (⟨"ApartGamesModel", "isPlayer", "(I)Z"⟩, prog_10_method_22_code, 1, (some .boolean))
abbrev M_Mo_exchanges : ZMeth := (⟨"ApartGamesModel", "exchanges", "(II)V"⟩, prog_10_method_42_code, 4, none)
abbrev M_Mo_swap : ZMeth := (⟨"ApartGamesModel", "swap", "()I"⟩, prog_10_method_44_code, 5, (some .int))
abbrev M_Mo_hasGame : ZMeth := (⟨"ApartGamesModel", "hasGame", "()Z"⟩, prog_10_method_19_code, 1, (some .boolean))
abbrev M_Mo_drop : ZMeth := (⟨"ApartGamesModel", "drop", "(II)I"⟩, prog_10_method_46_code, 4, (some .int))
abbrev M_Mo_copies : ZMeth := (⟨"ApartGamesModel", "copies", "(III)V"⟩, prog_10_method_45_code, 8, none)
abbrev M_Mo_copy : ZMeth := (⟨"ApartGamesModel", "copy", "(II)I"⟩, prog_10_method_47_code, 3, (some .int))
abbrev M_Mo_mix : ZMeth := (⟨"ApartGamesModel", "mix", "(III)I"⟩, prog_10_method_54_code, 6, (some .int))
abbrev M_Mo_lays : ZMeth := (⟨"ApartGamesModel", "lays", "(II)Z"⟩, prog_10_method_49_code, 7, (some .boolean))
abbrev M_Mo_rowOf : ZMeth := (⟨"ApartGamesModel", "rowOf", "(I)[I"⟩, prog_10_method_48_code, 2, (some (.array .int)))
abbrev M_Math_floorMod : ZMeth := (⟨"java/lang/Math", "floorMod", "(II)I"⟩, prog_11_method_50_code, 3, (some .int))
abbrev M_Mo_boxOf : ZMeth := (⟨"ApartGamesModel", "boxOf", "(IIII)I"⟩, prog_10_method_29_code, 5, (some .int))
abbrev M_Mo_draw : ZMeth := (⟨"ApartGamesModel", "draw", "(I)I"⟩, prog_10_method_57_code, 6, (some .int))
abbrev M_Mo_draws : ZMeth := (⟨"ApartGamesModel", "draws", "(I)I"⟩, prog_10_method_55_code, 2, (some .int))
abbrev M_Mo_winsMany : ZMeth := (⟨"ApartGamesModel", "winsMany", "()I"⟩, prog_10_method_56_code, 3, (some .int))
abbrev M_Mo_wins : ZMeth := (⟨"ApartGamesModel", "wins", "(IIII)I"⟩, prog_10_method_58_code, 5, (some .int))
abbrev M_Mo_weight : ZMeth := (⟨"ApartGamesModel", "weight", "(II)I"⟩, prog_10_method_59_code, 3, (some .int))
abbrev M_Mo_weightOf : ZMeth := (⟨"ApartGamesModel", "weightOf", "(II)I"⟩, prog_10_method_27_code, 3, (some .int))
abbrev M_Mo_worth : ZMeth := (⟨"ApartGamesModel", "worth", "(I)I"⟩, prog_10_method_68_code, 2, (some .int))
abbrev M_Mo_mostWorth : ZMeth := (⟨"ApartGamesModel", "mostWorth", "()I"⟩, prog_10_method_64_code, 3, (some .int))
abbrev M_Mo_laysFirst : ZMeth := (⟨"ApartGamesModel", "laysFirst", "(I)V"⟩, prog_10_method_51_code, 3, none)
abbrev M_Mo_reached : ZMeth := (⟨"ApartGamesModel", "reached", "(IZ)I"⟩, prog_10_method_63_code, 5, (some .int))
abbrev M_Mo_laysBy : ZMeth := (⟨"ApartGamesModel", "laysBy", "(II)V"⟩, prog_10_method_60_code, 6, none)
abbrev M_Mo_seen : ZMeth := (⟨"ApartGamesModel", "seen", "(IIIIII)I"⟩, prog_10_method_30_code, 7, (some .int))
abbrev M_Mo_weightSeen : ZMeth := (⟨"ApartGamesModel", "weightSeen", "(III)I"⟩, prog_10_method_31_code, 4, (some .int))
abbrev M_Mo_bestBy : ZMeth := (⟨"ApartGamesModel", "bestBy", "(I)I"⟩, prog_10_method_61_code, 4, (some .int))
abbrev M_Mo_worstBy : ZMeth := (⟨"ApartGamesModel", "worstBy", "(I)I"⟩, prog_10_method_62_code, 4, (some .int))
abbrev M_Mo_goesOn : ZMeth := (⟨"ApartGamesModel", "goesOn", "(I)Z"⟩, prog_10_method_52_code, 4, (some .boolean))
abbrev M_Mo_allWeights : ZMeth := (⟨"ApartGamesModel", "allWeights", "()I"⟩, prog_10_method_67_code, 3, (some .int))
abbrev M_Mo_leastWorth : ZMeth := (⟨"ApartGamesModel", "leastWorth", "()I"⟩, prog_10_method_65_code, 2, (some .int))
abbrev M_Mo_sureOf : ZMeth := (⟨"ApartGamesModel", "sureOf", "(I)I"⟩, prog_10_method_66_code, 4, (some .int))
abbrev M_Mo_toldOf : ZMeth := (⟨"ApartGamesModel", "toldOf", "(I)I"⟩, prog_10_method_50_code, 4, (some .int))
abbrev M_Mo_sure : ZMeth := (⟨"ApartGamesModel", "sure", "(I)I"⟩, prog_10_method_69_code, 3, (some .int))
abbrev M_Mo_play : ZMeth := (⟨"ApartGamesModel", "play", "(II)I"⟩, prog_10_method_70_code, 3, (some .int))
abbrev M_Mo_worthNow : ZMeth := (⟨"ApartGamesModel", "worthNow", "()I"⟩, prog_10_method_53_code, 4, (some .int))
abbrev M_Mo_hangs : ZMeth := (⟨"ApartGamesModel", "hangs", "(II)I"⟩, prog_10_method_71_code, 3, (some .int))
abbrev M_Mo_reply : ZMeth := (⟨"ApartGamesModel", "reply", "(II)I"⟩, prog_10_method_73_code, 3, (some .int))
abbrev M_Mo_replies : ZMeth := (⟨"ApartGamesModel", "replies", "(I)V"⟩, prog_10_method_72_code, 5, none)
abbrev M_Mo_bests : ZMeth := (⟨"ApartGamesModel", "bests", "()J"⟩, prog_10_method_76_code, 1, (some .long))
abbrev M_Mo_allWays : ZMeth := (⟨"ApartGamesModel", "allWays", "(II)J"⟩, prog_10_method_75_code, 7, (some .long))
abbrev M_Mo_ways : ZMeth := (⟨"ApartGamesModel", "ways", "(II)J"⟩, prog_10_method_74_code, 10, (some .long))
abbrev M_Mo_lost : ZMeth := (⟨"ApartGamesModel", "lost", "(II)J"⟩, prog_10_method_77_code, 3, (some .long))
abbrev M_Mo_best : ZMeth := (⟨"ApartGamesModel", "best", "(II)I"⟩, prog_10_method_79_code, 9, (some .int))
abbrev M_Mo_laysBest : ZMeth := (⟨"ApartGamesModel", "laysBest", "(J)V"⟩, prog_10_method_78_code, 12, none)
abbrev M_Mo_mean : ZMeth := (⟨"ApartGamesModel", "mean", "(I)J"⟩, prog_10_method_81_code, 8, (some .long))
abbrev M_Mo_common : ZMeth := (⟨"ApartGamesModel", "common", "(JJ)J"⟩, prog_10_method_80_code, 4, (some .long))
abbrev M_Mo_talk : ZMeth := (⟨"ApartGamesModel", "talk", "(I)I"⟩, prog_10_method_83_code, 7, (some .int))
abbrev M_Mo_toldWorth : ZMeth := (⟨"ApartGamesModel", "toldWorth", "(I)I"⟩, prog_10_method_82_code, 9, (some .int))
abbrev M_Mo_without : ZMeth := (⟨"ApartGamesModel", "without", "(II)I"⟩, prog_10_method_85_code, 3, (some .int))
abbrev M_Mo_mostWithout : ZMeth := (⟨"ApartGamesModel", "mostWithout", "(II)I"⟩, prog_10_method_84_code, 5, (some .int))
abbrev M_Mo_cut : ZMeth := (⟨"ApartGamesModel", "cut", "(II)I"⟩, prog_10_method_86_code, 3, (some .int))
abbrev M_Mo_lesser : ZMeth := (⟨"ApartGamesModel", "lesser", "(IIII)I"⟩, prog_10_method_87_code, 7, (some .int))
abbrev M_Mo_same : ZMeth := (⟨"ApartGamesModel", "same", "(III)I"⟩, prog_10_method_88_code, 8, (some .int))
abbrev M_Mo_climb : ZMeth := (⟨"ApartGamesModel", "climb", "(III)I"⟩, prog_10_method_89_code, 11, (some .int))
abbrev M_Mo_parts : ZMeth := (⟨"ApartGamesModel", "parts", "(I)I"⟩, prog_10_method_91_code, 8, (some .int))
abbrev M_Mo_laysParts : ZMeth := (⟨"ApartGamesModel", "laysParts", "()V"⟩, prog_10_method_90_code, 7, none)
abbrev M_Mo_sign_2 : ZMeth := (⟨"ApartGamesModel", "sign", "(II)I"⟩, prog_10_method_93_code, 3, (some .int))
abbrev M_Mo_signOf : ZMeth := (⟨"ApartGamesModel", "signOf", "(II)I"⟩, prog_10_method_92_code, 3, (some .int))
abbrev M_Mo_bias : ZMeth := (⟨"ApartGamesModel", "bias", "(I)I"⟩, prog_10_method_96_code, 9, (some .int))
abbrev M_Mo_isParityGame : ZMeth := (⟨"ApartGamesModel", "isParityGame", "()Z"⟩, prog_10_method_94_code, 4, (some .boolean))
abbrev M_Mo_squareOf : ZMeth := (⟨"ApartGamesModel", "squareOf", "(IIII)I"⟩, prog_10_method_95_code, 6, (some .int))
abbrev M_Mo_twice : ZMeth := (⟨"ApartGamesModel", "twice", "(I)I"⟩, prog_10_method_102_code, 11, (some .int))
abbrev M_Mo_pairRows : ZMeth := (⟨"ApartGamesModel", "pairRows", "()J"⟩, prog_10_method_99_code, 4, (some .long))
abbrev M_Mo_laysWon : ZMeth := (⟨"ApartGamesModel", "laysWon", "(Z)V"⟩, prog_10_method_100_code, 8, none)
abbrev M_Mo_wonPlace : ZMeth := (⟨"ApartGamesModel", "wonPlace", "(IIII)I"⟩, prog_10_method_98_code, 4, (some .int))
abbrev M_Mo_wonAt : ZMeth := (⟨"ApartGamesModel", "wonAt", "(IIIIZ)I"⟩, prog_10_method_97_code, 12, (some .int))
abbrev M_Mo_pairWorth : ZMeth := (⟨"ApartGamesModel", "pairWorth", "()I"⟩, prog_10_method_101_code, 9, (some .int))
abbrev M_Mo_product : ZMeth := (⟨"ApartGamesModel", "product", "()I"⟩, prog_10_method_103_code, 9, (some .int))
abbrev M_Math_abs : ZMeth := (⟨"java/lang/Math", "abs", "(I)I"⟩, prog_11_method_59_code, 1, (some .int))
abbrev M_Mo_boxed : ZMeth := (⟨"ApartGamesModel", "boxed", "(I)I"⟩, prog_10_method_108_code, 2, (some .int))
abbrev M_Mo_boxWorth : ZMeth := (⟨"ApartGamesModel", "boxWorth", "()I"⟩, prog_10_method_104_code, 6, (some .int))
abbrev M_Mo_isWhole : ZMeth := (⟨"ApartGamesModel", "isWhole", "()Z"⟩, prog_10_method_106_code, 6, (some .boolean))
abbrev M_Mo_givenAt : ZMeth := (⟨"ApartGamesModel", "givenAt", "(IIII)I"⟩, prog_10_method_105_code, 7, (some .int))
abbrev M_Mo_signals : ZMeth := (⟨"ApartGamesModel", "signals", "(I)Z"⟩, prog_10_method_107_code, 5, (some .boolean))
abbrev M_Mo_marginal : ZMeth := (⟨"ApartGamesModel", "marginal", "(IIII)I"⟩, prog_10_method_109_code, 5, (some .int))
abbrev M_Mo_symmetries : ZMeth := (⟨"ApartGamesModel", "symmetries", "()I"⟩, prog_10_method_113_code, 1, (some .int))
abbrev M_Mo_ordersOfAnn : ZMeth := (⟨"ApartGamesModel", "ordersOfAnn", "(II)I"⟩, prog_10_method_112_code, 5, (some .int))
abbrev M_Mo_ordersOfBen : ZMeth := (⟨"ApartGamesModel", "ordersOfBen", "(II)I"⟩, prog_10_method_111_code, 7, (some .int))
abbrev M_Mo_isAlike : ZMeth := (⟨"ApartGamesModel", "isAlike", "(IIII)Z"⟩, prog_10_method_110_code, 8, (some .boolean))
abbrev M_Mo_letter : ZMeth := (⟨"ApartGamesModel", "letter", "(I)I"⟩, prog_10_method_119_code, 2, (some .int))
abbrev M_Mo_writesAll : ZMeth := (⟨"ApartGamesModel", "writesAll", "()V"⟩, prog_10_method_118_code, 3, none)
abbrev M_Mo_writesWord : ZMeth := (⟨"ApartGamesModel", "writesWord", "(Ljava/lang/String;)V"⟩, prog_10_method_115_code, 3, none)
abbrev M_Mo_writes : ZMeth := (⟨"ApartGamesModel", "writes", "(I)V"⟩, prog_10_method_114_code, 2, none)
abbrev M_Mo_writesNumber : ZMeth := (⟨"ApartGamesModel", "writesNumber", "(I)V"⟩, prog_10_method_116_code, 2, none)
abbrev M_Mo_writesFours : ZMeth := (⟨"ApartGamesModel", "writesFours", "(Z)V"⟩, prog_10_method_117_code, 5, none)
abbrev M_Mo_count : ZMeth := (⟨"ApartGamesModel", "count", "(I)I"⟩, prog_10_method_120_code, 2, (some .int))
theorem zok0 {M : ZMeth} (h1 : Cond.code M.1 M.2.1 M.2.2.1 M.2.2.2 ∈ zWs) (h2 : Cond.initialized M.1.cls ∈ zWs) (h3 : plainName M.1.cls = true ∧ M.1.cls ≠ "java/lang/invoke/MethodHandle" ∧ M.1.cls ≠ "java/lang/invoke/VarHandle") : ZOK M := ⟨h1, h2, h3.1, h3.2⟩
theorem pl_Ap : plainName "ApartGames" = true ∧ "ApartGames" ≠ "java/lang/invoke/MethodHandle" ∧ "ApartGames" ≠ "java/lang/invoke/VarHandle" := by decide +kernel
theorem pl_Duo : plainName "ApartGames$Duo" = true ∧ "ApartGames$Duo" ≠ "java/lang/invoke/MethodHandle" ∧ "ApartGames$Duo" ≠ "java/lang/invoke/VarHandle" := by decide +kernel
theorem pl_Game : plainName "ApartGames$Game" = true ∧ "ApartGames$Game" ≠ "java/lang/invoke/MethodHandle" ∧ "ApartGames$Game" ≠ "java/lang/invoke/VarHandle" := by decide +kernel
theorem pl_Past : plainName "ApartGames$Past" = true ∧ "ApartGames$Past" ≠ "java/lang/invoke/MethodHandle" ∧ "ApartGames$Past" ≠ "java/lang/invoke/VarHandle" := by decide +kernel
theorem pl_Scribe : plainName "ApartGames$Scribe" = true ∧ "ApartGames$Scribe" ≠ "java/lang/invoke/MethodHandle" ∧ "ApartGames$Scribe" ≠ "java/lang/invoke/VarHandle" := by decide +kernel
theorem pl_Shape : plainName "ApartGames$Shape" = true ∧ "ApartGames$Shape" ≠ "java/lang/invoke/MethodHandle" ∧ "ApartGames$Shape" ≠ "java/lang/invoke/VarHandle" := by decide +kernel
theorem pl_Table : plainName "ApartGames$Table" = true ∧ "ApartGames$Table" ≠ "java/lang/invoke/MethodHandle" ∧ "ApartGames$Table" ≠ "java/lang/invoke/VarHandle" := by decide +kernel
theorem pl_Tape : plainName "ApartGames$Tape" = true ∧ "ApartGames$Tape" ≠ "java/lang/invoke/MethodHandle" ∧ "ApartGames$Tape" ≠ "java/lang/invoke/VarHandle" := by decide +kernel
theorem pl_Mo : plainName "ApartGamesModel" = true ∧ "ApartGamesModel" ≠ "java/lang/invoke/MethodHandle" ∧ "ApartGamesModel" ≠ "java/lang/invoke/VarHandle" := by decide +kernel
theorem pl_Str : plainName "java/lang/String" = true ∧ "java/lang/String" ≠ "java/lang/invoke/MethodHandle" ∧ "java/lang/String" ≠ "java/lang/invoke/VarHandle" := by decide +kernel
theorem pl_Lat : plainName "java/lang/StringLatin1" = true ∧ "java/lang/StringLatin1" ≠ "java/lang/invoke/MethodHandle" ∧ "java/lang/StringLatin1" ≠ "java/lang/invoke/VarHandle" := by decide +kernel
theorem pl_U16 : plainName "java/lang/StringUTF16" = true ∧ "java/lang/StringUTF16" ≠ "java/lang/invoke/MethodHandle" ∧ "java/lang/StringUTF16" ≠ "java/lang/invoke/VarHandle" := by decide +kernel
theorem pl_Pre : plainName "jdk/internal/util/Preconditions" = true ∧ "jdk/internal/util/Preconditions" ≠ "java/lang/invoke/MethodHandle" ∧ "jdk/internal/util/Preconditions" ≠ "java/lang/invoke/VarHandle" := by decide +kernel
theorem k_Ap_init : ZOK M_Ap_init := zok0 (zmem1 (i := 20) rfl rfl) (zmem1 (i := 1) rfl rfl) pl_Ap
theorem i_Ap_init : ZInit M_Ap_init := ⟨zmem1 (i := 19) rfl rfl, rfl⟩
theorem i_Obj_init : ZInit M_Obj_init := ⟨zmem1 (i := 22) rfl rfl, rfl⟩
theorem k_Tape_init : ZOK M_Tape_init := zok0 (zmem1 (i := 28) rfl rfl) (zmem1 (i := 2) rfl rfl) pl_Tape
theorem i_Tape_init : ZInit M_Tape_init := ⟨zmem1 (i := 27) rfl rfl, rfl⟩
theorem k_Past_init : ZOK M_Past_init := zok0 (zmem1 (i := 49) rfl rfl) (zmem1 (i := 3) rfl rfl) pl_Past
theorem i_Past_init : ZInit M_Past_init := ⟨zmem1 (i := 48) rfl rfl, rfl⟩
theorem k_Game_init : ZOK M_Game_init := zok0 (zmem1 (i := 56) rfl rfl) (zmem1 (i := 4) rfl rfl) pl_Game
theorem i_Game_init : ZInit M_Game_init := ⟨zmem1 (i := 55) rfl rfl, rfl⟩
theorem k_Table_init : ZOK M_Table_init := zok0 (zmem1 (i := 132) rfl rfl) (zmem1 (i := 5) rfl rfl) pl_Table
theorem i_Table_init : ZInit M_Table_init := ⟨zmem1 (i := 131) rfl rfl, rfl⟩
theorem k_Duo_init : ZOK M_Duo_init := zok0 (zmem1 (i := 176) rfl rfl) (zmem1 (i := 6) rfl rfl) pl_Duo
theorem i_Duo_init : ZInit M_Duo_init := ⟨zmem1 (i := 175) rfl rfl, rfl⟩
theorem k_Shape_init : ZOK M_Shape_init := zok0 (zmem1 (i := 192) rfl rfl) (zmem1 (i := 7) rfl rfl) pl_Shape
theorem i_Shape_init : ZInit M_Shape_init := ⟨zmem1 (i := 191) rfl rfl, rfl⟩
theorem k_Scribe_init : ZOK M_Scribe_init := zok0 (zmem1 (i := 208) rfl rfl) (zmem1 (i := 8) rfl rfl) pl_Scribe
theorem i_Scribe_init : ZInit M_Scribe_init := ⟨zmem1 (i := 207) rfl rfl, rfl⟩
theorem k_Ap_feed : ZOK M_Ap_feed := zok0 (zmem2 (i := 17) rfl rfl) (zmem1 (i := 1) rfl rfl) pl_Ap
theorem v_Ap_feed : ZVirt M_Ap_feed := ⟨zmem2 (i := 15) rfl rfl, zmem2 (i := 16) rfl rfl⟩
theorem k_Tape_hasRoomForFive : ZOK M_Tape_hasRoomForFive := zok0 (zmem2 (i := 21) rfl rfl) (zmem1 (i := 2) rfl rfl) pl_Tape
theorem v_Tape_hasRoomForFive : ZVirt M_Tape_hasRoomForFive := ⟨zmem2 (i := 20) rfl rfl, zsel1 (q := (M_Tape_hasRoomForFive.1, 4)) (i := 0) rfl rfl⟩
theorem k_Tape_addNumber : ZOK M_Tape_addNumber := zok0 (zmem2 (i := 25) rfl rfl) (zmem1 (i := 2) rfl rfl) pl_Tape
theorem v_Tape_addNumber : ZVirt M_Tape_addNumber := ⟨zmem2 (i := 24) rfl rfl, zsel1 (q := (M_Tape_addNumber.1, 4)) (i := 1) rfl rfl⟩
theorem k_Ap_end : ZOK M_Ap_end := zok0 (zmem2 (i := 29) rfl rfl) (zmem1 (i := 1) rfl rfl) pl_Ap
theorem v_Ap_end : ZVirt M_Ap_end := ⟨zmem2 (i := 27) rfl rfl, zmem2 (i := 28) rfl rfl⟩
theorem k_Ap_tell : ZOK M_Ap_tell := zok0 (zmem2 (i := 33) rfl rfl) (zmem1 (i := 1) rfl rfl) pl_Ap
theorem v_Ap_tell : ZVirt M_Ap_tell := ⟨zmem2 (i := 31) rfl rfl, zmem2 (i := 32) rfl rfl⟩
theorem k_Tape_readInto : ZOK M_Tape_readInto := zok0 (zmem2 (i := 37) rfl rfl) (zmem1 (i := 2) rfl rfl) pl_Tape
theorem v_Tape_readInto : ZVirt M_Tape_readInto := ⟨zmem2 (i := 36) rfl rfl, zsel1 (q := (M_Tape_readInto.1, 4)) (i := 2) rfl rfl⟩
theorem k_Tape_readHead : ZOK M_Tape_readHead := zok0 (zmem2 (i := 41) rfl rfl) (zmem1 (i := 2) rfl rfl) pl_Tape
theorem v_Tape_readHead : ZVirt M_Tape_readHead := ⟨zmem2 (i := 40) rfl rfl, zsel1 (q := (M_Tape_readHead.1, 4)) (i := 3) rfl rfl⟩
theorem k_Tape_skipBlanks : ZOK M_Tape_skipBlanks := zok0 (zmem2 (i := 45) rfl rfl) (zmem1 (i := 2) rfl rfl) pl_Tape
theorem v_Tape_skipBlanks : ZVirt M_Tape_skipBlanks := ⟨zmem2 (i := 44) rfl rfl, zsel1 (q := (M_Tape_skipBlanks.1, 4)) (i := 4) rfl rfl⟩
theorem k_Tape_behindWord : ZOK M_Tape_behindWord := zok0 (zmem2 (i := 49) rfl rfl) (zmem1 (i := 2) rfl rfl) pl_Tape
theorem v_Tape_behindWord : ZVirt M_Tape_behindWord := ⟨zmem2 (i := 48) rfl rfl, zsel1 (q := (M_Tape_behindWord.1, 4)) (i := 5) rfl rfl⟩
theorem k_Tape_isWord : ZOK M_Tape_isWord := zok0 (zmem2 (i := 54) rfl rfl) (zmem1 (i := 2) rfl rfl) pl_Tape
theorem v_Tape_isWord : ZVirt M_Tape_isWord := ⟨zmem2 (i := 53) rfl rfl, zsel1 (q := (M_Tape_isWord.1, 4)) (i := 6) rfl rfl⟩
theorem k_Str_length : ZOK M_Str_length := zok0 (zmem2 (i := 58) rfl rfl) (zmem1 (i := 10) rfl rfl) pl_Str
theorem v_Str_length : ZVirt M_Str_length := ⟨zmem2 (i := 56) rfl rfl, zmem2 (i := 57) rfl rfl⟩
theorem k_Str_coder : ZOK M_Str_coder := zok0 (zmem2 (i := 62) rfl rfl) (zmem1 (i := 10) rfl rfl) pl_Str
theorem v_Str_coder : ZVirt M_Str_coder := ⟨zmem2 (i := 60) rfl rfl, zmem2 (i := 61) rfl rfl⟩
theorem k_Str_charAt : ZOK M_Str_charAt := zok0 (zmem2 (i := 68) rfl rfl) (zmem1 (i := 10) rfl rfl) pl_Str
theorem v_Str_charAt : ZVirt M_Str_charAt := ⟨zmem2 (i := 66) rfl rfl, zmem2 (i := 67) rfl rfl⟩
theorem k_Str_isLatin1 : ZOK M_Str_isLatin1 := zok0 (zmem2 (i := 72) rfl rfl) (zmem1 (i := 10) rfl rfl) pl_Str
theorem v_Str_isLatin1 : ZVirt M_Str_isLatin1 := ⟨zmem2 (i := 70) rfl rfl, zmem2 (i := 71) rfl rfl⟩
theorem k_Lat_charAt : ZOK M_Lat_charAt := zok0 (zmem2 (i := 75) rfl rfl) (zmem1 (i := 11) rfl rfl) pl_Lat
theorem s_Lat_charAt : ZStat M_Lat_charAt := zmem2 (i := 74) rfl rfl
theorem k_Str_checkIndex : ZOK M_Str_checkIndex := zok0 (zmem2 (i := 78) rfl rfl) (zmem1 (i := 10) rfl rfl) pl_Str
theorem s_Str_checkIndex : ZStat M_Str_checkIndex := zmem2 (i := 77) rfl rfl
theorem k_Pre_checkIndex : ZOK M_Pre_checkIndex := zok0 (zmem2 (i := 83) rfl rfl) (zmem1 (i := 12) rfl rfl) pl_Pre
theorem s_Pre_checkIndex : ZStat M_Pre_checkIndex := zmem2 (i := 82) rfl rfl
theorem k_U16_charAt : ZOK M_U16_charAt := zok0 (zmem2 (i := 86) rfl rfl) (zmem1 (i := 13) rfl rfl) pl_U16
theorem s_U16_charAt : ZStat M_U16_charAt := zmem2 (i := 85) rfl rfl
theorem k_U16_checkIndex : ZOK M_U16_checkIndex := zok0 (zmem2 (i := 89) rfl rfl) (zmem1 (i := 13) rfl rfl) pl_U16
theorem s_U16_checkIndex : ZStat M_U16_checkIndex := zmem2 (i := 88) rfl rfl
theorem k_U16_length : ZOK M_U16_length := zok0 (zmem2 (i := 92) rfl rfl) (zmem1 (i := 13) rfl rfl) pl_U16
theorem s_U16_length : ZStat M_U16_length := zmem2 (i := 91) rfl rfl
theorem k_U16_getChar : ZOK M_U16_getChar := zok0 (zmem2 (i := 96) rfl rfl) (zmem1 (i := 13) rfl rfl) pl_U16
theorem s_U16_getChar : ZStat M_U16_getChar := zmem2 (i := 95) rfl rfl
theorem k_Tape_blame : ZOK M_Tape_blame := zok0 (zmem2 (i := 106) rfl rfl) (zmem1 (i := 2) rfl rfl) pl_Tape
theorem v_Tape_blame : ZVirt M_Tape_blame := ⟨zmem2 (i := 105) rfl rfl, zsel1 (q := (M_Tape_blame.1, 4)) (i := 7) rfl rfl⟩
theorem k_Tape_readNumber : ZOK M_Tape_readNumber := zok0 (zmem2 (i := 110) rfl rfl) (zmem1 (i := 2) rfl rfl) pl_Tape
theorem v_Tape_readNumber : ZVirt M_Tape_readNumber := ⟨zmem2 (i := 109) rfl rfl, zsel1 (q := (M_Tape_readNumber.1, 4)) (i := 8) rfl rfl⟩
theorem s_Math_min : ZStat M_Math_min := zmem2 (i := 112) rfl rfl
theorem k_Game_start : ZOK M_Game_start := zok0 (zmem2 (i := 117) rfl rfl) (zmem1 (i := 4) rfl rfl) pl_Game
theorem v_Game_start : ZVirt M_Game_start := ⟨zmem2 (i := 116) rfl rfl, zsel1 (q := (M_Game_start.1, 7)) (i := 9) rfl rfl⟩
theorem k_Tape_readPart : ZOK M_Tape_readPart := zok0 (zmem2 (i := 121) rfl rfl) (zmem1 (i := 2) rfl rfl) pl_Tape
theorem v_Tape_readPart : ZVirt M_Tape_readPart := ⟨zmem2 (i := 120) rfl rfl, zsel1 (q := (M_Tape_readPart.1, 4)) (i := 10) rfl rfl⟩
theorem k_Tape_kindOfWord : ZOK M_Tape_kindOfWord := zok0 (zmem2 (i := 125) rfl rfl) (zmem1 (i := 2) rfl rfl) pl_Tape
theorem v_Tape_kindOfWord : ZVirt M_Tape_kindOfWord := ⟨zmem2 (i := 124) rfl rfl, zsel1 (q := (M_Tape_kindOfWord.1, 4)) (i := 11) rfl rfl⟩
theorem k_Tape_readWeight : ZOK M_Tape_readWeight := zok0 (zmem2 (i := 136) rfl rfl) (zmem1 (i := 2) rfl rfl) pl_Tape
theorem v_Tape_readWeight : ZVirt M_Tape_readWeight := ⟨zmem2 (i := 135) rfl rfl, zsel1 (q := (M_Tape_readWeight.1, 4)) (i := 12) rfl rfl⟩
theorem k_Ap_cellOf : ZOK M_Ap_cellOf := zok0 (zmem2 (i := 139) rfl rfl) (zmem1 (i := 1) rfl rfl) pl_Ap
theorem s_Ap_cellOf : ZStat M_Ap_cellOf := zmem2 (i := 138) rfl rfl
theorem k_Tape_readSpot : ZOK M_Tape_readSpot := zok0 (zmem2 (i := 143) rfl rfl) (zmem1 (i := 2) rfl rfl) pl_Tape
theorem v_Tape_readSpot : ZVirt M_Tape_readSpot := ⟨zmem2 (i := 142) rfl rfl, zsel1 (q := (M_Tape_readSpot.1, 4)) (i := 13) rfl rfl⟩
theorem k_Ap_spotOf : ZOK M_Ap_spotOf := zok0 (zmem2 (i := 146) rfl rfl) (zmem1 (i := 1) rfl rfl) pl_Ap
theorem s_Ap_spotOf : ZStat M_Ap_spotOf := zmem2 (i := 145) rfl rfl
theorem k_Tape_winWhere : ZOK M_Tape_winWhere := zok0 (zmem2 (i := 149) rfl rfl) (zmem1 (i := 2) rfl rfl) pl_Tape
theorem s_Tape_winWhere : ZStat M_Tape_winWhere := zmem2 (i := 148) rfl rfl
theorem k_Tape_suits : ZOK M_Tape_suits := zok0 (zmem2 (i := 152) rfl rfl) (zmem1 (i := 2) rfl rfl) pl_Tape
theorem s_Tape_suits : ZStat M_Tape_suits := zmem2 (i := 151) rfl rfl
theorem k_Ap_takeSpare : ZOK M_Ap_takeSpare := zok0 (zmem2 (i := 156) rfl rfl) (zmem1 (i := 1) rfl rfl) pl_Ap
theorem v_Ap_takeSpare : ZVirt M_Ap_takeSpare := ⟨zmem2 (i := 155) rfl rfl, zsel1 (q := (M_Ap_takeSpare.1, 10)) (i := 14) rfl rfl⟩
theorem k_Past_forget : ZOK M_Past_forget := zok0 (zmem2 (i := 160) rfl rfl) (zmem1 (i := 3) rfl rfl) pl_Past
theorem v_Past_forget : ZVirt M_Past_forget := ⟨zmem2 (i := 159) rfl rfl, zsel1 (q := (M_Past_forget.1, 3)) (i := 15) rfl rfl⟩
theorem k_Ap_weigh : ZOK M_Ap_weigh := zok0 (zmem2 (i := 165) rfl rfl) (zmem1 (i := 1) rfl rfl) pl_Ap
theorem v_Ap_weigh : ZVirt M_Ap_weigh := ⟨zmem2 (i := 163) rfl rfl, zmem2 (i := 164) rfl rfl⟩
theorem k_Game_hasCell : ZOK M_Game_hasCell := zok0 (zmem2 (i := 169) rfl rfl) (zmem1 (i := 4) rfl rfl) pl_Game
theorem v_Game_hasCell : ZVirt M_Game_hasCell := ⟨zmem2 (i := 168) rfl rfl, zsel2 (q := (M_Game_hasCell.1, 7)) (i := 0) rfl rfl⟩
theorem k_Game_hasQuestion : ZOK M_Game_hasQuestion := zok0 (zmem2 (i := 173) rfl rfl) (zmem1 (i := 4) rfl rfl) pl_Game
theorem v_Game_hasQuestion : ZVirt M_Game_hasQuestion := ⟨zmem2 (i := 172) rfl rfl, zsel2 (q := (M_Game_hasQuestion.1, 7)) (i := 1) rfl rfl⟩
theorem k_Ap_isPlayer : ZOK M_Ap_isPlayer := zok0 (zmem2 (i := 176) rfl rfl) (zmem1 (i := 1) rfl rfl) pl_Ap
theorem s_Ap_isPlayer : ZStat M_Ap_isPlayer := zmem2 (i := 175) rfl rfl
theorem k_Game_questionsOf : ZOK M_Game_questionsOf := zok0 (zmem2 (i := 180) rfl rfl) (zmem1 (i := 4) rfl rfl) pl_Game
theorem v_Game_questionsOf : ZVirt M_Game_questionsOf := ⟨zmem2 (i := 179) rfl rfl, zsel2 (q := (M_Game_questionsOf.1, 7)) (i := 2) rfl rfl⟩
theorem k_Past_remember : ZOK M_Past_remember := zok0 (zmem2 (i := 185) rfl rfl) (zmem1 (i := 3) rfl rfl) pl_Past
theorem v_Past_remember : ZVirt M_Past_remember := ⟨zmem2 (i := 184) rfl rfl, zsel2 (q := (M_Past_remember.1, 3)) (i := 3) rfl rfl⟩
theorem k_Game_become : ZOK M_Game_become := zok0 (zmem2 (i := 189) rfl rfl) (zmem1 (i := 4) rfl rfl) pl_Game
theorem v_Game_become : ZVirt M_Game_become := ⟨zmem2 (i := 188) rfl rfl, zsel2 (q := (M_Game_become.1, 7)) (i := 4) rfl rfl⟩
theorem k_Ap_decide : ZOK M_Ap_decide := zok0 (zmem2 (i := 197) rfl rfl) (zmem1 (i := 1) rfl rfl) pl_Ap
theorem v_Ap_decide : ZVirt M_Ap_decide := ⟨zmem2 (i := 195) rfl rfl, zmem2 (i := 196) rfl rfl⟩
theorem k_Game_hasSpot : ZOK M_Game_hasSpot := zok0 (zmem2 (i := 201) rfl rfl) (zmem1 (i := 4) rfl rfl) pl_Game
theorem v_Game_hasSpot : ZVirt M_Game_hasSpot := ⟨zmem2 (i := 200) rfl rfl, zsel2 (q := (M_Game_hasSpot.1, 7)) (i := 5) rfl rfl⟩
theorem k_Game_hasAnswer : ZOK M_Game_hasAnswer := zok0 (zmem2 (i := 206) rfl rfl) (zmem1 (i := 4) rfl rfl) pl_Game
theorem v_Game_hasAnswer : ZVirt M_Game_hasAnswer := ⟨zmem2 (i := 205) rfl rfl, zsel2 (q := (M_Game_hasAnswer.1, 7)) (i := 6) rfl rfl⟩
theorem k_Game_answersOf : ZOK M_Game_answersOf := zok0 (zmem2 (i := 210) rfl rfl) (zmem1 (i := 4) rfl rfl) pl_Game
theorem v_Game_answersOf : ZVirt M_Game_answersOf := ⟨zmem2 (i := 209) rfl rfl, zsel2 (q := (M_Game_answersOf.1, 7)) (i := 7) rfl rfl⟩
theorem k_Ap_parity : ZOK M_Ap_parity := zok0 (zmem2 (i := 215) rfl rfl) (zmem1 (i := 1) rfl rfl) pl_Ap
theorem v_Ap_parity : ZVirt M_Ap_parity := ⟨zmem2 (i := 213) rfl rfl, zmem2 (i := 214) rfl rfl⟩
theorem k_Game_signAt : ZOK M_Game_signAt := zok0 (zmem2 (i := 219) rfl rfl) (zmem1 (i := 4) rfl rfl) pl_Game
theorem v_Game_signAt : ZVirt M_Game_signAt := ⟨zmem2 (i := 218) rfl rfl, zsel2 (q := (M_Game_signAt.1, 7)) (i := 8) rfl rfl⟩
theorem k_Game_winByParity : ZOK M_Game_winByParity := zok0 (zmem2 (i := 224) rfl rfl) (zmem1 (i := 4) rfl rfl) pl_Game
theorem v_Game_winByParity : ZVirt M_Game_winByParity := ⟨zmem2 (i := 223) rfl rfl, zsel2 (q := (M_Game_winByParity.1, 7)) (i := 9) rfl rfl⟩
theorem k_Ap_exchange : ZOK M_Ap_exchange := zok0 (zmem2 (i := 228) rfl rfl) (zmem1 (i := 1) rfl rfl) pl_Ap
theorem v_Ap_exchange : ZVirt M_Ap_exchange := ⟨zmem2 (i := 226) rfl rfl, zmem2 (i := 227) rfl rfl⟩
theorem k_Game_hasTwoAnswers : ZOK M_Game_hasTwoAnswers := zok0 (zmem2 (i := 232) rfl rfl) (zmem1 (i := 4) rfl rfl) pl_Game
theorem v_Game_hasTwoAnswers : ZVirt M_Game_hasTwoAnswers := ⟨zmem2 (i := 231) rfl rfl, zsel2 (q := (M_Game_hasTwoAnswers.1, 7)) (i := 10) rfl rfl⟩
theorem k_Game_exchangeAnswers : ZOK M_Game_exchangeAnswers := zok0 (zmem2 (i := 236) rfl rfl) (zmem1 (i := 4) rfl rfl) pl_Game
theorem v_Game_exchangeAnswers : ZVirt M_Game_exchangeAnswers := ⟨zmem2 (i := 235) rfl rfl, zsel2 (q := (M_Game_exchangeAnswers.1, 7)) (i := 11) rfl rfl⟩
theorem k_Game_exchangeEntries : ZOK M_Game_exchangeEntries := zok0 (zmem2 (i := 239) rfl rfl) (zmem1 (i := 4) rfl rfl) pl_Game
theorem s_Game_exchangeEntries : ZStat M_Game_exchangeEntries := zmem2 (i := 238) rfl rfl
theorem k_Ap_swap : ZOK M_Ap_swap := zok0 (zmem3 (i := 3) rfl rfl) (zmem1 (i := 1) rfl rfl) pl_Ap
theorem v_Ap_swap : ZVirt M_Ap_swap := ⟨zmem3 (i := 1) rfl rfl, zmem3 (i := 2) rfl rfl⟩
theorem k_Game_isTold : ZOK M_Game_isTold := zok0 (zmem3 (i := 7) rfl rfl) (zmem1 (i := 4) rfl rfl) pl_Game
theorem v_Game_isTold : ZVirt M_Game_isTold := ⟨zmem3 (i := 6) rfl rfl, zsel2 (q := (M_Game_isTold.1, 7)) (i := 12) rfl rfl⟩
theorem k_Game_becomeFlipped : ZOK M_Game_becomeFlipped := zok0 (zmem3 (i := 11) rfl rfl) (zmem1 (i := 4) rfl rfl) pl_Game
theorem v_Game_becomeFlipped : ZVirt M_Game_becomeFlipped := ⟨zmem3 (i := 10) rfl rfl, zsel2 (q := (M_Game_becomeFlipped.1, 7)) (i := 13) rfl rfl⟩
theorem k_Game_flipAnswers : ZOK M_Game_flipAnswers := zok0 (zmem3 (i := 16) rfl rfl) (zmem1 (i := 4) rfl rfl) pl_Game
theorem v_Game_flipAnswers : ZVirt M_Game_flipAnswers := ⟨zmem3 (i := 15) rfl rfl, zsel2 (q := (M_Game_flipAnswers.1, 7)) (i := 14) rfl rfl⟩
theorem k_Ap_drop : ZOK M_Ap_drop := zok0 (zmem3 (i := 20) rfl rfl) (zmem1 (i := 1) rfl rfl) pl_Ap
theorem v_Ap_drop : ZVirt M_Ap_drop := ⟨zmem3 (i := 18) rfl rfl, zmem3 (i := 19) rfl rfl⟩
theorem k_Game_dropQuestion : ZOK M_Game_dropQuestion := zok0 (zmem3 (i := 26) rfl rfl) (zmem1 (i := 4) rfl rfl) pl_Game
theorem v_Game_dropQuestion : ZVirt M_Game_dropQuestion := ⟨zmem3 (i := 25) rfl rfl, zsel2 (q := (M_Game_dropQuestion.1, 7)) (i := 15) rfl rfl⟩
theorem k_Game_copyOver : ZOK M_Game_copyOver := zok0 (zmem3 (i := 30) rfl rfl) (zmem1 (i := 4) rfl rfl) pl_Game
theorem v_Game_copyOver : ZVirt M_Game_copyOver := ⟨zmem3 (i := 29) rfl rfl, zsel3 (q := (M_Game_copyOver.1, 7)) (i := 0) rfl rfl⟩
theorem k_Game_setQuestions : ZOK M_Game_setQuestions := zok0 (zmem3 (i := 34) rfl rfl) (zmem1 (i := 4) rfl rfl) pl_Game
theorem v_Game_setQuestions : ZVirt M_Game_setQuestions := ⟨zmem3 (i := 33) rfl rfl, zsel3 (q := (M_Game_setQuestions.1, 7)) (i := 1) rfl rfl⟩
theorem k_Ap_copy : ZOK M_Ap_copy := zok0 (zmem3 (i := 38) rfl rfl) (zmem1 (i := 1) rfl rfl) pl_Ap
theorem v_Ap_copy : ZVirt M_Ap_copy := ⟨zmem3 (i := 36) rfl rfl, zmem3 (i := 37) rfl rfl⟩
theorem k_Game_addQuestionLike : ZOK M_Game_addQuestionLike := zok0 (zmem3 (i := 42) rfl rfl) (zmem1 (i := 4) rfl rfl) pl_Game
theorem v_Game_addQuestionLike : ZVirt M_Game_addQuestionLike := ⟨zmem3 (i := 41) rfl rfl, zsel3 (q := (M_Game_addQuestionLike.1, 7)) (i := 2) rfl rfl⟩
theorem k_Ap_box : ZOK M_Ap_box := zok0 (zmem3 (i := 46) rfl rfl) (zmem1 (i := 1) rfl rfl) pl_Ap
theorem v_Ap_box : ZVirt M_Ap_box := ⟨zmem3 (i := 44) rfl rfl, zmem3 (i := 45) rfl rfl⟩
theorem k_Ap_mix : ZOK M_Ap_mix := zok0 (zmem3 (i := 50) rfl rfl) (zmem1 (i := 1) rfl rfl) pl_Ap
theorem v_Ap_mix : ZVirt M_Ap_mix := ⟨zmem3 (i := 48) rfl rfl, zmem3 (i := 49) rfl rfl⟩
theorem k_Duo_takeBoth : ZOK M_Duo_takeBoth := zok0 (zmem3 (i := 54) rfl rfl) (zmem1 (i := 6) rfl rfl) pl_Duo
theorem v_Duo_takeBoth : ZVirt M_Duo_takeBoth := ⟨zmem3 (i := 53) rfl rfl, zsel3 (q := (M_Duo_takeBoth.1, 3)) (i := 3) rfl rfl⟩
theorem k_Duo_take : ZOK M_Duo_take := zok0 (zmem3 (i := 58) rfl rfl) (zmem1 (i := 6) rfl rfl) pl_Duo
theorem v_Duo_take : ZVirt M_Duo_take := ⟨zmem3 (i := 57) rfl rfl, zsel3 (q := (M_Duo_take.1, 3)) (i := 4) rfl rfl⟩
theorem k_Duo_answersBy : ZOK M_Duo_answersBy := zok0 (zmem3 (i := 62) rfl rfl) (zmem1 (i := 6) rfl rfl) pl_Duo
theorem v_Duo_answersBy : ZVirt M_Duo_answersBy := ⟨zmem3 (i := 61) rfl rfl, zsel3 (q := (M_Duo_answersBy.1, 3)) (i := 5) rfl rfl⟩
theorem k_Duo_greatestBox : ZOK M_Duo_greatestBox := zok0 (zmem3 (i := 69) rfl rfl) (zmem1 (i := 6) rfl rfl) pl_Duo
theorem v_Duo_greatestBox : ZVirt M_Duo_greatestBox := ⟨zmem3 (i := 68) rfl rfl, zsel3 (q := (M_Duo_greatestBox.1, 3)) (i := 6) rfl rfl⟩
theorem s_Math_max : ZStat M_Math_max := zmem3 (i := 72) rfl rfl
theorem k_Duo_addToBoxes : ZOK M_Duo_addToBoxes := zok0 (zmem3 (i := 77) rfl rfl) (zmem1 (i := 6) rfl rfl) pl_Duo
theorem v_Duo_addToBoxes : ZVirt M_Duo_addToBoxes := ⟨zmem3 (i := 76) rfl rfl, zsel3 (q := (M_Duo_addToBoxes.1, 3)) (i := 7) rfl rfl⟩
theorem k_Ap_draw : ZOK M_Ap_draw := zok0 (zmem3 (i := 81) rfl rfl) (zmem1 (i := 1) rfl rfl) pl_Ap
theorem v_Ap_draw : ZVirt M_Ap_draw := ⟨zmem3 (i := 79) rfl rfl, zmem3 (i := 80) rfl rfl⟩
theorem k_Game_drawAll : ZOK M_Game_drawAll := zok0 (zmem3 (i := 85) rfl rfl) (zmem1 (i := 4) rfl rfl) pl_Game
theorem v_Game_drawAll : ZVirt M_Game_drawAll := ⟨zmem3 (i := 84) rfl rfl, zsel3 (q := (M_Game_drawAll.1, 7)) (i := 8) rfl rfl⟩
theorem k_Game_nextState : ZOK M_Game_nextState := zok0 (zmem3 (i := 88) rfl rfl) (zmem1 (i := 4) rfl rfl) pl_Game
theorem s_Game_nextState : ZStat M_Game_nextState := zmem3 (i := 87) rfl rfl
theorem k_Game_winningSpots : ZOK M_Game_winningSpots := zok0 (zmem3 (i := 93) rfl rfl) (zmem1 (i := 4) rfl rfl) pl_Game
theorem v_Game_winningSpots : ZVirt M_Game_winningSpots := ⟨zmem3 (i := 92) rfl rfl, zsel3 (q := (M_Game_winningSpots.1, 7)) (i := 9) rfl rfl⟩
theorem k_Game_winningAt : ZOK M_Game_winningAt := zok0 (zmem3 (i := 97) rfl rfl) (zmem1 (i := 4) rfl rfl) pl_Game
theorem v_Game_winningAt : ZVirt M_Game_winningAt := ⟨zmem3 (i := 96) rfl rfl, zsel3 (q := (M_Game_winningAt.1, 7)) (i := 10) rfl rfl⟩
theorem k_Ap_undo : ZOK M_Ap_undo := zok0 (zmem3 (i := 101) rfl rfl) (zmem1 (i := 1) rfl rfl) pl_Ap
theorem v_Ap_undo : ZVirt M_Ap_undo := ⟨zmem3 (i := 99) rfl rfl, zmem3 (i := 100) rfl rfl⟩
theorem k_Past_restore : ZOK M_Past_restore := zok0 (zmem3 (i := 105) rfl rfl) (zmem1 (i := 3) rfl rfl) pl_Past
theorem v_Past_restore : ZVirt M_Past_restore := ⟨zmem3 (i := 104) rfl rfl, zsel3 (q := (M_Past_restore.1, 3)) (i := 11) rfl rfl⟩
theorem k_Ap_keep : ZOK M_Ap_keep := zok0 (zmem3 (i := 109) rfl rfl) (zmem1 (i := 1) rfl rfl) pl_Ap
theorem v_Ap_keep : ZVirt M_Ap_keep := ⟨zmem3 (i := 107) rfl rfl, zmem3 (i := 108) rfl rfl⟩
theorem k_Ap_back : ZOK M_Ap_back := zok0 (zmem3 (i := 114) rfl rfl) (zmem1 (i := 1) rfl rfl) pl_Ap
theorem v_Ap_back : ZVirt M_Ap_back := ⟨zmem3 (i := 112) rfl rfl, zmem3 (i := 113) rfl rfl⟩
theorem k_Ap_wins : ZOK M_Ap_wins := zok0 (zmem3 (i := 118) rfl rfl) (zmem1 (i := 1) rfl rfl) pl_Ap
theorem v_Ap_wins : ZVirt M_Ap_wins := ⟨zmem3 (i := 116) rfl rfl, zmem3 (i := 117) rfl rfl⟩
theorem k_Ap_weight : ZOK M_Ap_weight := zok0 (zmem3 (i := 122) rfl rfl) (zmem1 (i := 1) rfl rfl) pl_Ap
theorem v_Ap_weight : ZVirt M_Ap_weight := ⟨zmem3 (i := 120) rfl rfl, zmem3 (i := 121) rfl rfl⟩
theorem k_Ap_worth : ZOK M_Ap_worth := zok0 (zmem3 (i := 126) rfl rfl) (zmem1 (i := 1) rfl rfl) pl_Ap
theorem v_Ap_worth : ZVirt M_Ap_worth := ⟨zmem3 (i := 124) rfl rfl, zmem3 (i := 125) rfl rfl⟩
theorem k_Ap_mostOf : ZOK M_Ap_mostOf := zok0 (zmem3 (i := 130) rfl rfl) (zmem1 (i := 1) rfl rfl) pl_Ap
theorem v_Ap_mostOf : ZVirt M_Ap_mostOf := ⟨zmem3 (i := 129) rfl rfl, zsel3 (q := (M_Ap_mostOf.1, 10)) (i := 12) rfl rfl⟩
theorem k_Table_loadSome : ZOK M_Table_loadSome := zok0 (zmem3 (i := 134) rfl rfl) (zmem1 (i := 5) rfl rfl) pl_Table
theorem v_Table_loadSome : ZVirt M_Table_loadSome := ⟨zmem3 (i := 133) rfl rfl, zsel3 (q := (M_Table_loadSome.1, 12)) (i := 13) rfl rfl⟩
theorem k_Table_setSizes : ZOK M_Table_setSizes := zok0 (zmem3 (i := 140) rfl rfl) (zmem1 (i := 5) rfl rfl) pl_Table
theorem v_Table_setSizes : ZVirt M_Table_setSizes := ⟨zmem3 (i := 139) rfl rfl, zsel3 (q := (M_Table_setSizes.1, 12)) (i := 14) rfl rfl⟩
theorem k_Table_loadQuestion : ZOK M_Table_loadQuestion := zok0 (zmem3 (i := 144) rfl rfl) (zmem1 (i := 5) rfl rfl) pl_Table
theorem v_Table_loadQuestion : ZVirt M_Table_loadQuestion := ⟨zmem3 (i := 143) rfl rfl, zsel3 (q := (M_Table_loadQuestion.1, 12)) (i := 15) rfl rfl⟩
theorem k_Game_gain : ZOK M_Game_gain := zok0 (zmem3 (i := 148) rfl rfl) (zmem1 (i := 4) rfl rfl) pl_Game
theorem v_Game_gain : ZVirt M_Game_gain := ⟨zmem3 (i := 147) rfl rfl, zsel4 (q := (M_Game_gain.1, 7)) (i := 0) rfl rfl⟩
theorem k_Table_mostAbove : ZOK M_Table_mostAbove := zok0 (zmem3 (i := 152) rfl rfl) (zmem1 (i := 5) rfl rfl) pl_Table
theorem v_Table_mostAbove : ZVirt M_Table_mostAbove := ⟨zmem3 (i := 151) rfl rfl, zsel4 (q := (M_Table_mostAbove.1, 12)) (i := 1) rfl rfl⟩
theorem k_Table_clearFirstSums : ZOK M_Table_clearFirstSums := zok0 (zmem3 (i := 156) rfl rfl) (zmem1 (i := 5) rfl rfl) pl_Table
theorem v_Table_clearFirstSums : ZVirt M_Table_clearFirstSums := ⟨zmem3 (i := 155) rfl rfl, zsel4 (q := (M_Table_clearFirstSums.1, 12)) (i := 2) rfl rfl⟩
theorem k_Table_fillHopes : ZOK M_Table_fillHopes := zok0 (zmem3 (i := 160) rfl rfl) (zmem1 (i := 5) rfl rfl) pl_Table
theorem v_Table_fillHopes : ZVirt M_Table_fillHopes := ⟨zmem3 (i := 159) rfl rfl, zsel4 (q := (M_Table_fillHopes.1, 12)) (i := 3) rfl rfl⟩
theorem k_Table_greatestGain : ZOK M_Table_greatestGain := zok0 (zmem3 (i := 164) rfl rfl) (zmem1 (i := 5) rfl rfl) pl_Table
theorem v_Table_greatestGain : ZVirt M_Table_greatestGain := ⟨zmem3 (i := 163) rfl rfl, zsel4 (q := (M_Table_greatestGain.1, 12)) (i := 4) rfl rfl⟩
theorem k_Table_markNeedless : ZOK M_Table_markNeedless := zok0 (zmem3 (i := 169) rfl rfl) (zmem1 (i := 5) rfl rfl) pl_Table
theorem v_Table_markNeedless : ZVirt M_Table_markNeedless := ⟨zmem3 (i := 168) rfl rfl, zsel4 (q := (M_Table_markNeedless.1, 12)) (i := 5) rfl rfl⟩
theorem k_Table_isCovered : ZOK M_Table_isCovered := zok0 (zmem3 (i := 173) rfl rfl) (zmem1 (i := 5) rfl rfl) pl_Table
theorem v_Table_isCovered : ZVirt M_Table_isCovered := ⟨zmem3 (i := 172) rfl rfl, zsel4 (q := (M_Table_isCovered.1, 12)) (i := 6) rfl rfl⟩
theorem k_Table_covers : ZOK M_Table_covers := zok0 (zmem3 (i := 177) rfl rfl) (zmem1 (i := 5) rfl rfl) pl_Table
theorem v_Table_covers : ZVirt M_Table_covers := ⟨zmem3 (i := 176) rfl rfl, zsel4 (q := (M_Table_covers.1, 12)) (i := 7) rfl rfl⟩
theorem k_Table_hopeAt : ZOK M_Table_hopeAt := zok0 (zmem3 (i := 181) rfl rfl) (zmem1 (i := 5) rfl rfl) pl_Table
theorem v_Table_hopeAt : ZVirt M_Table_hopeAt := ⟨zmem3 (i := 180) rfl rfl, zsel4 (q := (M_Table_hopeAt.1, 12)) (i := 8) rfl rfl⟩
theorem k_Table_search : ZOK M_Table_search := zok0 (zmem3 (i := 184) rfl rfl) (zmem1 (i := 5) rfl rfl) pl_Table
theorem s_Table_search : ZStat M_Table_search := zmem3 (i := 183) rfl rfl
theorem k_Table_addLine : ZOK M_Table_addLine := zok0 (zmem3 (i := 188) rfl rfl) (zmem1 (i := 5) rfl rfl) pl_Table
theorem v_Table_addLine : ZVirt M_Table_addLine := ⟨zmem3 (i := 187) rfl rfl, zsel4 (q := (M_Table_addLine.1, 12)) (i := 9) rfl rfl⟩
theorem k_Game_weightTogether : ZOK M_Game_weightTogether := zok0 (zmem3 (i := 192) rfl rfl) (zmem1 (i := 4) rfl rfl) pl_Game
theorem v_Game_weightTogether : ZVirt M_Game_weightTogether := ⟨zmem3 (i := 191) rfl rfl, zsel4 (q := (M_Game_weightTogether.1, 7)) (i := 10) rfl rfl⟩
theorem k_Table_leastLow : ZOK M_Table_leastLow := zok0 (zmem3 (i := 196) rfl rfl) (zmem1 (i := 5) rfl rfl) pl_Table
theorem v_Table_leastLow : ZVirt M_Table_leastLow := ⟨zmem3 (i := 195) rfl rfl, zsel4 (q := (M_Table_leastLow.1, 12)) (i := 11) rfl rfl⟩
theorem k_Table_rows : ZOK M_Table_rows := zok0 (zmem3 (i := 200) rfl rfl) (zmem1 (i := 5) rfl rfl) pl_Table
theorem v_Table_rows : ZVirt M_Table_rows := ⟨zmem3 (i := 199) rfl rfl, zsel4 (q := (M_Table_rows.1, 12)) (i := 12) rfl rfl⟩
theorem k_Table_begin : ZOK M_Table_begin := zok0 (zmem3 (i := 204) rfl rfl) (zmem1 (i := 5) rfl rfl) pl_Table
theorem v_Table_begin : ZVirt M_Table_begin := ⟨zmem3 (i := 203) rfl rfl, zsel4 (q := (M_Table_begin.1, 12)) (i := 13) rfl rfl⟩
theorem k_Table_sumFrom : ZOK M_Table_sumFrom := zok0 (zmem3 (i := 208) rfl rfl) (zmem1 (i := 5) rfl rfl) pl_Table
theorem v_Table_sumFrom : ZVirt M_Table_sumFrom := ⟨zmem3 (i := 207) rfl rfl, zsel4 (q := (M_Table_sumFrom.1, 12)) (i := 14) rfl rfl⟩
theorem k_Table_low : ZOK M_Table_low := zok0 (zmem3 (i := 212) rfl rfl) (zmem1 (i := 5) rfl rfl) pl_Table
theorem v_Table_low : ZVirt M_Table_low := ⟨zmem3 (i := 211) rfl rfl, zsel4 (q := (M_Table_low.1, 12)) (i := 15) rfl rfl⟩
theorem k_Table_lowAt : ZOK M_Table_lowAt := zok0 (zmem3 (i := 216) rfl rfl) (zmem1 (i := 5) rfl rfl) pl_Table
theorem v_Table_lowAt : ZVirt M_Table_lowAt := ⟨zmem3 (i := 215) rfl rfl, zsel5 (q := (M_Table_lowAt.1, 12)) (i := 0) rfl rfl⟩
theorem k_Table_step : ZOK M_Table_step := zok0 (zmem3 (i := 221) rfl rfl) (zmem1 (i := 5) rfl rfl) pl_Table
theorem v_Table_step : ZVirt M_Table_step := ⟨zmem3 (i := 220) rfl rfl, zsel5 (q := (M_Table_step.1, 12)) (i := 1) rfl rfl⟩
theorem k_Table_mostLow : ZOK M_Table_mostLow := zok0 (zmem3 (i := 225) rfl rfl) (zmem1 (i := 5) rfl rfl) pl_Table
theorem v_Table_mostLow : ZVirt M_Table_mostLow := ⟨zmem3 (i := 224) rfl rfl, zsel5 (q := (M_Table_mostLow.1, 12)) (i := 2) rfl rfl⟩
theorem k_Ap_sure : ZOK M_Ap_sure := zok0 (zmem3 (i := 229) rfl rfl) (zmem1 (i := 1) rfl rfl) pl_Ap
theorem v_Ap_sure : ZVirt M_Ap_sure := ⟨zmem3 (i := 227) rfl rfl, zmem3 (i := 228) rfl rfl⟩
theorem k_Table_firstRowOfLow : ZOK M_Table_firstRowOfLow := zok0 (zmem3 (i := 234) rfl rfl) (zmem1 (i := 5) rfl rfl) pl_Table
theorem v_Table_firstRowOfLow : ZVirt M_Table_firstRowOfLow := ⟨zmem3 (i := 233) rfl rfl, zsel5 (q := (M_Table_firstRowOfLow.1, 12)) (i := 3) rfl rfl⟩
theorem k_Duo_numberOf : ZOK M_Duo_numberOf := zok0 (zmem3 (i := 237) rfl rfl) (zmem1 (i := 6) rfl rfl) pl_Duo
theorem s_Duo_numberOf : ZStat M_Duo_numberOf := zmem3 (i := 236) rfl rfl
theorem k_Ap_play : ZOK M_Ap_play := zok0 (zmem4 (i := 1) rfl rfl) (zmem1 (i := 1) rfl rfl) pl_Ap
theorem v_Ap_play : ZVirt M_Ap_play := ⟨zmem3 (i := 239) rfl rfl, zmem4 (i := 0) rfl rfl⟩
theorem k_Duo_worthBoth : ZOK M_Duo_worthBoth := zok0 (zmem4 (i := 5) rfl rfl) (zmem1 (i := 6) rfl rfl) pl_Duo
theorem v_Duo_worthBoth : ZVirt M_Duo_worthBoth := ⟨zmem4 (i := 4) rfl rfl, zsel5 (q := (M_Duo_worthBoth.1, 3)) (i := 4) rfl rfl⟩
theorem k_Duo_worthAt : ZOK M_Duo_worthAt := zok0 (zmem4 (i := 9) rfl rfl) (zmem1 (i := 6) rfl rfl) pl_Duo
theorem v_Duo_worthAt : ZVirt M_Duo_worthAt := ⟨zmem4 (i := 8) rfl rfl, zsel5 (q := (M_Duo_worthAt.1, 3)) (i := 5) rfl rfl⟩
theorem k_Ap_hangs : ZOK M_Ap_hangs := zok0 (zmem4 (i := 14) rfl rfl) (zmem1 (i := 1) rfl rfl) pl_Ap
theorem v_Ap_hangs : ZVirt M_Ap_hangs := ⟨zmem4 (i := 12) rfl rfl, zmem4 (i := 13) rfl rfl⟩
theorem k_Duo_spanAt : ZOK M_Duo_spanAt := zok0 (zmem4 (i := 19) rfl rfl) (zmem1 (i := 6) rfl rfl) pl_Duo
theorem v_Duo_spanAt : ZVirt M_Duo_spanAt := ⟨zmem4 (i := 18) rfl rfl, zsel5 (q := (M_Duo_spanAt.1, 3)) (i := 6) rfl rfl⟩
theorem k_Ap_reply : ZOK M_Ap_reply := zok0 (zmem4 (i := 24) rfl rfl) (zmem1 (i := 1) rfl rfl) pl_Ap
theorem v_Ap_reply : ZVirt M_Ap_reply := ⟨zmem4 (i := 22) rfl rfl, zmem4 (i := 23) rfl rfl⟩
theorem k_Duo_answerBest : ZOK M_Duo_answerBest := zok0 (zmem4 (i := 28) rfl rfl) (zmem1 (i := 6) rfl rfl) pl_Duo
theorem v_Duo_answerBest : ZVirt M_Duo_answerBest := ⟨zmem4 (i := 27) rfl rfl, zsel5 (q := (M_Duo_answerBest.1, 3)) (i := 7) rfl rfl⟩
theorem k_Duo_bestReply : ZOK M_Duo_bestReply := zok0 (zmem4 (i := 33) rfl rfl) (zmem1 (i := 6) rfl rfl) pl_Duo
theorem v_Duo_bestReply : ZVirt M_Duo_bestReply := ⟨zmem4 (i := 32) rfl rfl, zsel5 (q := (M_Duo_bestReply.1, 3)) (i := 8) rfl rfl⟩
theorem k_Ap_bests : ZOK M_Ap_bests := zok0 (zmem4 (i := 38) rfl rfl) (zmem1 (i := 1) rfl rfl) pl_Ap
theorem v_Ap_bests : ZVirt M_Ap_bests := ⟨zmem4 (i := 36) rfl rfl, zmem4 (i := 37) rfl rfl⟩
theorem k_Table_countTops : ZOK M_Table_countTops := zok0 (zmem4 (i := 43) rfl rfl) (zmem1 (i := 5) rfl rfl) pl_Table
theorem v_Table_countTops : ZVirt M_Table_countTops := ⟨zmem4 (i := 42) rfl rfl, zsel5 (q := (M_Table_countTops.1, 12)) (i := 9) rfl rfl⟩
theorem k_Table_high : ZOK M_Table_high := zok0 (zmem4 (i := 47) rfl rfl) (zmem1 (i := 5) rfl rfl) pl_Table
theorem v_Table_high : ZVirt M_Table_high := ⟨zmem4 (i := 46) rfl rfl, zsel5 (q := (M_Table_high.1, 12)) (i := 10) rfl rfl⟩
theorem k_Table_highAt : ZOK M_Table_highAt := zok0 (zmem4 (i := 51) rfl rfl) (zmem1 (i := 5) rfl rfl) pl_Table
theorem v_Table_highAt : ZVirt M_Table_highAt := ⟨zmem4 (i := 50) rfl rfl, zsel5 (q := (M_Table_highAt.1, 12)) (i := 11) rfl rfl⟩
theorem k_Table_topRowsFrom : ZOK M_Table_topRowsFrom := zok0 (zmem4 (i := 55) rfl rfl) (zmem1 (i := 5) rfl rfl) pl_Table
theorem v_Table_topRowsFrom : ZVirt M_Table_topRowsFrom := ⟨zmem4 (i := 54) rfl rfl, zsel5 (q := (M_Table_topRowsFrom.1, 12)) (i := 12) rfl rfl⟩
theorem k_Table_topReplies : ZOK M_Table_topReplies := zok0 (zmem4 (i := 59) rfl rfl) (zmem1 (i := 5) rfl rfl) pl_Table
theorem v_Table_topReplies : ZVirt M_Table_topReplies := ⟨zmem4 (i := 58) rfl rfl, zsel5 (q := (M_Table_topReplies.1, 12)) (i := 13) rfl rfl⟩
theorem k_Ap_best : ZOK M_Ap_best := zok0 (zmem4 (i := 63) rfl rfl) (zmem1 (i := 1) rfl rfl) pl_Ap
theorem v_Ap_best : ZVirt M_Ap_best := ⟨zmem4 (i := 61) rfl rfl, zmem4 (i := 62) rfl rfl⟩
theorem k_Table_rowOfTop : ZOK M_Table_rowOfTop := zok0 (zmem4 (i := 67) rfl rfl) (zmem1 (i := 5) rfl rfl) pl_Table
theorem v_Table_rowOfTop : ZVirt M_Table_rowOfTop := ⟨zmem4 (i := 66) rfl rfl, zsel5 (q := (M_Table_rowOfTop.1, 12)) (i := 14) rfl rfl⟩
theorem k_Table_findTopReplies : ZOK M_Table_findTopReplies := zok0 (zmem4 (i := 71) rfl rfl) (zmem1 (i := 5) rfl rfl) pl_Table
theorem v_Table_findTopReplies : ZVirt M_Table_findTopReplies := ⟨zmem4 (i := 70) rfl rfl, zsel5 (q := (M_Table_findTopReplies.1, 12)) (i := 15) rfl rfl⟩
theorem k_Table_topReplyAt : ZOK M_Table_topReplyAt := zok0 (zmem4 (i := 75) rfl rfl) (zmem1 (i := 5) rfl rfl) pl_Table
theorem v_Table_topReplyAt : ZVirt M_Table_topReplyAt := ⟨zmem4 (i := 74) rfl rfl, zsel6 (q := (M_Table_topReplyAt.1, 12)) (i := 0) rfl rfl⟩
theorem k_Table_isTopReply : ZOK M_Table_isTopReply := zok0 (zmem4 (i := 79) rfl rfl) (zmem1 (i := 5) rfl rfl) pl_Table
theorem v_Table_isTopReply : ZVirt M_Table_isTopReply := ⟨zmem4 (i := 78) rfl rfl, zsel6 (q := (M_Table_isTopReply.1, 12)) (i := 1) rfl rfl⟩
theorem k_Ap_lost : ZOK M_Ap_lost := zok0 (zmem4 (i := 83) rfl rfl) (zmem1 (i := 1) rfl rfl) pl_Ap
theorem v_Ap_lost : ZVirt M_Ap_lost := ⟨zmem4 (i := 81) rfl rfl, zmem4 (i := 82) rfl rfl⟩
theorem k_Table_countTopsLosing : ZOK M_Table_countTopsLosing := zok0 (zmem4 (i := 87) rfl rfl) (zmem1 (i := 5) rfl rfl) pl_Table
theorem v_Table_countTopsLosing : ZVirt M_Table_countTopsLosing := ⟨zmem4 (i := 86) rfl rfl, zsel6 (q := (M_Table_countTopsLosing.1, 12)) (i := 2) rfl rfl⟩
theorem k_Table_topRowsLosing : ZOK M_Table_topRowsLosing := zok0 (zmem4 (i := 91) rfl rfl) (zmem1 (i := 5) rfl rfl) pl_Table
theorem v_Table_topRowsLosing : ZVirt M_Table_topRowsLosing := ⟨zmem4 (i := 90) rfl rfl, zsel6 (q := (M_Table_topRowsLosing.1, 12)) (i := 3) rfl rfl⟩
theorem k_Table_topRepliesLosing : ZOK M_Table_topRepliesLosing := zok0 (zmem4 (i := 95) rfl rfl) (zmem1 (i := 5) rfl rfl) pl_Table
theorem v_Table_topRepliesLosing : ZVirt M_Table_topRepliesLosing := ⟨zmem4 (i := 94) rfl rfl, zsel6 (q := (M_Table_topRepliesLosing.1, 12)) (i := 4) rfl rfl⟩
theorem k_Ap_mean : ZOK M_Ap_mean := zok0 (zmem4 (i := 100) rfl rfl) (zmem1 (i := 1) rfl rfl) pl_Ap
theorem v_Ap_mean : ZVirt M_Ap_mean := ⟨zmem4 (i := 98) rfl rfl, zmem4 (i := 99) rfl rfl⟩
theorem k_Game_weightOfWinningSpots : ZOK M_Game_weightOfWinningSpots := zok0 (zmem4 (i := 104) rfl rfl) (zmem1 (i := 4) rfl rfl) pl_Game
theorem v_Game_weightOfWinningSpots : ZVirt M_Game_weightOfWinningSpots := ⟨zmem4 (i := 103) rfl rfl, zsel6 (q := (M_Game_weightOfWinningSpots.1, 7)) (i := 5) rfl rfl⟩
theorem k_Ap_commonDivisor : ZOK M_Ap_commonDivisor := zok0 (zmem4 (i := 107) rfl rfl) (zmem1 (i := 1) rfl rfl) pl_Ap
theorem s_Ap_commonDivisor : ZStat M_Ap_commonDivisor := zmem4 (i := 106) rfl rfl
theorem k_Ap_talk : ZOK M_Ap_talk := zok0 (zmem4 (i := 111) rfl rfl) (zmem1 (i := 1) rfl rfl) pl_Ap
theorem v_Ap_talk : ZVirt M_Ap_talk := ⟨zmem4 (i := 109) rfl rfl, zmem4 (i := 110) rfl rfl⟩
theorem k_Ap_mostAsked : ZOK M_Ap_mostAsked := zok0 (zmem4 (i := 115) rfl rfl) (zmem1 (i := 1) rfl rfl) pl_Ap
theorem v_Ap_mostAsked : ZVirt M_Ap_mostAsked := ⟨zmem4 (i := 114) rfl rfl, zsel6 (q := (M_Ap_mostAsked.1, 10)) (i := 6) rfl rfl⟩
theorem k_Ap_without : ZOK M_Ap_without := zok0 (zmem4 (i := 119) rfl rfl) (zmem1 (i := 1) rfl rfl) pl_Ap
theorem v_Ap_without : ZVirt M_Ap_without := ⟨zmem4 (i := 117) rfl rfl, zmem4 (i := 118) rfl rfl⟩
theorem k_Ap_lesser : ZOK M_Ap_lesser := zok0 (zmem4 (i := 123) rfl rfl) (zmem1 (i := 1) rfl rfl) pl_Ap
theorem v_Ap_lesser : ZVirt M_Ap_lesser := ⟨zmem4 (i := 121) rfl rfl, zmem4 (i := 122) rfl rfl⟩
theorem k_Game_isLesser : ZOK M_Game_isLesser := zok0 (zmem4 (i := 127) rfl rfl) (zmem1 (i := 4) rfl rfl) pl_Game
theorem v_Game_isLesser : ZVirt M_Game_isLesser := ⟨zmem4 (i := 126) rfl rfl, zsel6 (q := (M_Game_isLesser.1, 7)) (i := 7) rfl rfl⟩
theorem k_Ap_same : ZOK M_Ap_same := zok0 (zmem4 (i := 132) rfl rfl) (zmem1 (i := 1) rfl rfl) pl_Ap
theorem v_Ap_same : ZVirt M_Ap_same := ⟨zmem4 (i := 130) rfl rfl, zmem4 (i := 131) rfl rfl⟩
theorem k_Game_areSame : ZOK M_Game_areSame := zok0 (zmem4 (i := 136) rfl rfl) (zmem1 (i := 4) rfl rfl) pl_Game
theorem v_Game_areSame : ZVirt M_Game_areSame := ⟨zmem4 (i := 135) rfl rfl, zsel6 (q := (M_Game_areSame.1, 7)) (i := 8) rfl rfl⟩
theorem k_Game_areSameSpots : ZOK M_Game_areSameSpots := zok0 (zmem4 (i := 140) rfl rfl) (zmem1 (i := 4) rfl rfl) pl_Game
theorem v_Game_areSameSpots : ZVirt M_Game_areSameSpots := ⟨zmem4 (i := 139) rfl rfl, zsel6 (q := (M_Game_areSameSpots.1, 7)) (i := 9) rfl rfl⟩
theorem k_Ap_climb : ZOK M_Ap_climb := zok0 (zmem4 (i := 144) rfl rfl) (zmem1 (i := 1) rfl rfl) pl_Ap
theorem v_Ap_climb : ZVirt M_Ap_climb := ⟨zmem4 (i := 142) rfl rfl, zmem4 (i := 143) rfl rfl⟩
theorem k_Duo_climbUp : ZOK M_Duo_climbUp := zok0 (zmem4 (i := 148) rfl rfl) (zmem1 (i := 6) rfl rfl) pl_Duo
theorem v_Duo_climbUp : ZVirt M_Duo_climbUp := ⟨zmem4 (i := 147) rfl rfl, zsel6 (q := (M_Duo_climbUp.1, 3)) (i := 10) rfl rfl⟩
theorem k_Duo_rowOf : ZOK M_Duo_rowOf := zok0 (zmem4 (i := 155) rfl rfl) (zmem1 (i := 6) rfl rfl) pl_Duo
theorem v_Duo_rowOf : ZVirt M_Duo_rowOf := ⟨zmem4 (i := 154) rfl rfl, zsel6 (q := (M_Duo_rowOf.1, 3)) (i := 11) rfl rfl⟩
theorem k_Ap_cut : ZOK M_Ap_cut := zok0 (zmem4 (i := 159) rfl rfl) (zmem1 (i := 1) rfl rfl) pl_Ap
theorem v_Ap_cut : ZVirt M_Ap_cut := ⟨zmem4 (i := 157) rfl rfl, zmem4 (i := 158) rfl rfl⟩
theorem k_Ap_parts : ZOK M_Ap_parts := zok0 (zmem4 (i := 163) rfl rfl) (zmem1 (i := 1) rfl rfl) pl_Ap
theorem v_Ap_parts : ZVirt M_Ap_parts := ⟨zmem4 (i := 161) rfl rfl, zmem4 (i := 162) rfl rfl⟩
theorem k_Shape_partsOf : ZOK M_Shape_partsOf := zok0 (zmem4 (i := 167) rfl rfl) (zmem1 (i := 7) rfl rfl) pl_Shape
theorem v_Shape_partsOf : ZVirt M_Shape_partsOf := ⟨zmem4 (i := 166) rfl rfl, zsel6 (q := (M_Shape_partsOf.1, 3)) (i := 12) rfl rfl⟩
theorem k_Shape_markParts : ZOK M_Shape_markParts := zok0 (zmem4 (i := 171) rfl rfl) (zmem1 (i := 7) rfl rfl) pl_Shape
theorem v_Shape_markParts : ZVirt M_Shape_markParts := ⟨zmem4 (i := 170) rfl rfl, zsel6 (q := (M_Shape_markParts.1, 3)) (i := 13) rfl rfl⟩
theorem k_Shape_joinParts : ZOK M_Shape_joinParts := zok0 (zmem4 (i := 176) rfl rfl) (zmem1 (i := 7) rfl rfl) pl_Shape
theorem v_Shape_joinParts : ZVirt M_Shape_joinParts := ⟨zmem4 (i := 175) rfl rfl, zsel6 (q := (M_Shape_joinParts.1, 3)) (i := 14) rfl rfl⟩
theorem k_Shape_greatestPartOf : ZOK M_Shape_greatestPartOf := zok0 (zmem4 (i := 181) rfl rfl) (zmem1 (i := 7) rfl rfl) pl_Shape
theorem v_Shape_greatestPartOf : ZVirt M_Shape_greatestPartOf := ⟨zmem4 (i := 180) rfl rfl, zsel6 (q := (M_Shape_greatestPartOf.1, 3)) (i := 15) rfl rfl⟩
theorem k_Ap_sign : ZOK M_Ap_sign := zok0 (zmem4 (i := 186) rfl rfl) (zmem1 (i := 1) rfl rfl) pl_Ap
theorem v_Ap_sign : ZVirt M_Ap_sign := ⟨zmem4 (i := 184) rfl rfl, zmem4 (i := 185) rfl rfl⟩
theorem k_Ap_bias : ZOK M_Ap_bias := zok0 (zmem4 (i := 190) rfl rfl) (zmem1 (i := 1) rfl rfl) pl_Ap
theorem v_Ap_bias : ZVirt M_Ap_bias := ⟨zmem4 (i := 188) rfl rfl, zmem4 (i := 189) rfl rfl⟩
theorem k_Game_isParityGame : ZOK M_Game_isParityGame := zok0 (zmem4 (i := 194) rfl rfl) (zmem1 (i := 4) rfl rfl) pl_Game
theorem v_Game_isParityGame : ZVirt M_Game_isParityGame := ⟨zmem4 (i := 193) rfl rfl, zsel7 (q := (M_Game_isParityGame.1, 7)) (i := 0) rfl rfl⟩
theorem k_Ap_mostBias : ZOK M_Ap_mostBias := zok0 (zmem4 (i := 199) rfl rfl) (zmem1 (i := 1) rfl rfl) pl_Ap
theorem v_Ap_mostBias : ZVirt M_Ap_mostBias := ⟨zmem4 (i := 198) rfl rfl, zsel7 (q := (M_Ap_mostBias.1, 10)) (i := 1) rfl rfl⟩
theorem k_Game_squares : ZOK M_Game_squares := zok0 (zmem4 (i := 203) rfl rfl) (zmem1 (i := 4) rfl rfl) pl_Game
theorem v_Game_squares : ZVirt M_Game_squares := ⟨zmem4 (i := 202) rfl rfl, zsel7 (q := (M_Game_squares.1, 7)) (i := 2) rfl rfl⟩
theorem k_Game_squaresOfTwo : ZOK M_Game_squaresOfTwo := zok0 (zmem4 (i := 207) rfl rfl) (zmem1 (i := 4) rfl rfl) pl_Game
theorem v_Game_squaresOfTwo : ZVirt M_Game_squaresOfTwo := ⟨zmem4 (i := 206) rfl rfl, zsel7 (q := (M_Game_squaresOfTwo.1, 7)) (i := 3) rfl rfl⟩
theorem k_Game_signedWeight : ZOK M_Game_signedWeight := zok0 (zmem4 (i := 211) rfl rfl) (zmem1 (i := 4) rfl rfl) pl_Game
theorem v_Game_signedWeight : ZVirt M_Game_signedWeight := ⟨zmem4 (i := 210) rfl rfl, zsel7 (q := (M_Game_signedWeight.1, 7)) (i := 4) rfl rfl⟩
theorem k_Ap_twice : ZOK M_Ap_twice := zok0 (zmem4 (i := 215) rfl rfl) (zmem1 (i := 1) rfl rfl) pl_Ap
theorem v_Ap_twice : ZVirt M_Ap_twice := ⟨zmem4 (i := 213) rfl rfl, zmem4 (i := 214) rfl rfl⟩
theorem k_Ap_rowsTwice : ZOK M_Ap_rowsTwice := zok0 (zmem4 (i := 219) rfl rfl) (zmem1 (i := 1) rfl rfl) pl_Ap
theorem v_Ap_rowsTwice : ZVirt M_Ap_rowsTwice := ⟨zmem4 (i := 218) rfl rfl, zsel7 (q := (M_Ap_rowsTwice.1, 10)) (i := 5) rfl rfl⟩
theorem k_Table_loadTwice : ZOK M_Table_loadTwice := zok0 (zmem4 (i := 224) rfl rfl) (zmem1 (i := 5) rfl rfl) pl_Table
theorem v_Table_loadTwice : ZVirt M_Table_loadTwice := ⟨zmem4 (i := 223) rfl rfl, zsel7 (q := (M_Table_loadTwice.1, 12)) (i := 6) rfl rfl⟩
theorem k_Table_loadTwiceLine : ZOK M_Table_loadTwiceLine := zok0 (zmem4 (i := 228) rfl rfl) (zmem1 (i := 5) rfl rfl) pl_Table
theorem v_Table_loadTwiceLine : ZVirt M_Table_loadTwiceLine := ⟨zmem4 (i := 227) rfl rfl, zsel7 (q := (M_Table_loadTwiceLine.1, 12)) (i := 7) rfl rfl⟩
theorem k_Ap_product : ZOK M_Ap_product := zok0 (zmem4 (i := 233) rfl rfl) (zmem1 (i := 1) rfl rfl) pl_Ap
theorem v_Ap_product : ZVirt M_Ap_product := ⟨zmem4 (i := 231) rfl rfl, zmem4 (i := 232) rfl rfl⟩
theorem k_Table_loadWithItself : ZOK M_Table_loadWithItself := zok0 (zmem4 (i := 237) rfl rfl) (zmem1 (i := 5) rfl rfl) pl_Table
theorem v_Table_loadWithItself : ZVirt M_Table_loadWithItself := ⟨zmem4 (i := 236) rfl rfl, zsel7 (q := (M_Table_loadWithItself.1, 12)) (i := 8) rfl rfl⟩
theorem k_Table_loadWithItselfLines : ZOK M_Table_loadWithItselfLines := zok0 (zmem5 (i := 1) rfl rfl) (zmem1 (i := 5) rfl rfl) pl_Table
theorem v_Table_loadWithItselfLines : ZVirt M_Table_loadWithItselfLines := ⟨zmem5 (i := 0) rfl rfl, zsel7 (q := (M_Table_loadWithItselfLines.1, 12)) (i := 9) rfl rfl⟩
theorem k_Ap_boxed : ZOK M_Ap_boxed := zok0 (zmem5 (i := 6) rfl rfl) (zmem1 (i := 1) rfl rfl) pl_Ap
theorem v_Ap_boxed : ZVirt M_Ap_boxed := ⟨zmem5 (i := 4) rfl rfl, zmem5 (i := 5) rfl rfl⟩
theorem k_Game_boxWorth : ZOK M_Game_boxWorth := zok0 (zmem5 (i := 10) rfl rfl) (zmem1 (i := 4) rfl rfl) pl_Game
theorem v_Game_boxWorth : ZVirt M_Game_boxWorth := ⟨zmem5 (i := 9) rfl rfl, zsel7 (q := (M_Game_boxWorth.1, 7)) (i := 10) rfl rfl⟩
theorem k_Game_isWhole : ZOK M_Game_isWhole := zok0 (zmem5 (i := 14) rfl rfl) (zmem1 (i := 4) rfl rfl) pl_Game
theorem v_Game_isWhole : ZVirt M_Game_isWhole := ⟨zmem5 (i := 13) rfl rfl, zsel7 (q := (M_Game_isWhole.1, 7)) (i := 11) rfl rfl⟩
theorem k_Game_howOften : ZOK M_Game_howOften := zok0 (zmem5 (i := 18) rfl rfl) (zmem1 (i := 4) rfl rfl) pl_Game
theorem v_Game_howOften : ZVirt M_Game_howOften := ⟨zmem5 (i := 17) rfl rfl, zsel7 (q := (M_Game_howOften.1, 7)) (i := 12) rfl rfl⟩
theorem k_Game_signalsTo : ZOK M_Game_signalsTo := zok0 (zmem5 (i := 22) rfl rfl) (zmem1 (i := 4) rfl rfl) pl_Game
theorem v_Game_signalsTo : ZVirt M_Game_signalsTo := ⟨zmem5 (i := 21) rfl rfl, zsel7 (q := (M_Game_signalsTo.1, 7)) (i := 13) rfl rfl⟩
theorem k_Ap_marginal : ZOK M_Ap_marginal := zok0 (zmem5 (i := 26) rfl rfl) (zmem1 (i := 1) rfl rfl) pl_Ap
theorem v_Ap_marginal : ZVirt M_Ap_marginal := ⟨zmem5 (i := 24) rfl rfl, zmem5 (i := 25) rfl rfl⟩
theorem k_Ap_symmetries : ZOK M_Ap_symmetries := zok0 (zmem5 (i := 32) rfl rfl) (zmem1 (i := 1) rfl rfl) pl_Ap
theorem v_Ap_symmetries : ZVirt M_Ap_symmetries := ⟨zmem5 (i := 30) rfl rfl, zmem5 (i := 31) rfl rfl⟩
theorem k_Shape_ordersOf : ZOK M_Shape_ordersOf := zok0 (zmem5 (i := 36) rfl rfl) (zmem1 (i := 7) rfl rfl) pl_Shape
theorem v_Shape_ordersOf : ZVirt M_Shape_ordersOf := ⟨zmem5 (i := 35) rfl rfl, zsel7 (q := (M_Shape_ordersOf.1, 3)) (i := 14) rfl rfl⟩
theorem k_Shape_noteLooks : ZOK M_Shape_noteLooks := zok0 (zmem5 (i := 40) rfl rfl) (zmem1 (i := 7) rfl rfl) pl_Shape
theorem v_Shape_noteLooks : ZVirt M_Shape_noteLooks := ⟨zmem5 (i := 39) rfl rfl, zsel7 (q := (M_Shape_noteLooks.1, 3)) (i := 15) rfl rfl⟩
theorem k_Shape_setOrder : ZOK M_Shape_setOrder := zok0 (zmem5 (i := 45) rfl rfl) (zmem1 (i := 7) rfl rfl) pl_Shape
theorem v_Shape_setOrder : ZVirt M_Shape_setOrder := ⟨zmem5 (i := 44) rfl rfl, zsel8 (q := (M_Shape_setOrder.1, 3)) (i := 0) rfl rfl⟩
theorem k_Shape_freePlace : ZOK M_Shape_freePlace := zok0 (zmem5 (i := 48) rfl rfl) (zmem1 (i := 7) rfl rfl) pl_Shape
theorem s_Shape_freePlace : ZStat M_Shape_freePlace := zmem5 (i := 47) rfl rfl
theorem k_Shape_ordersOfBen : ZOK M_Shape_ordersOfBen := zok0 (zmem5 (i := 52) rfl rfl) (zmem1 (i := 7) rfl rfl) pl_Shape
theorem v_Shape_ordersOfBen : ZVirt M_Shape_ordersOfBen := ⟨zmem5 (i := 51) rfl rfl, zsel8 (q := (M_Shape_ordersOfBen.1, 3)) (i := 1) rfl rfl⟩
theorem k_Shape_looksLike : ZOK M_Shape_looksLike := zok0 (zmem5 (i := 56) rfl rfl) (zmem1 (i := 7) rfl rfl) pl_Shape
theorem v_Shape_looksLike : ZVirt M_Shape_looksLike := ⟨zmem5 (i := 55) rfl rfl, zsel8 (q := (M_Shape_looksLike.1, 3)) (i := 2) rfl rfl⟩
theorem k_Ap_letter : ZOK M_Ap_letter := zok0 (zmem5 (i := 60) rfl rfl) (zmem1 (i := 1) rfl rfl) pl_Ap
theorem v_Ap_letter : ZVirt M_Ap_letter := ⟨zmem5 (i := 58) rfl rfl, zmem5 (i := 59) rfl rfl⟩
theorem k_Scribe_write : ZOK M_Scribe_write := zok0 (zmem5 (i := 64) rfl rfl) (zmem1 (i := 8) rfl rfl) pl_Scribe
theorem v_Scribe_write : ZVirt M_Scribe_write := ⟨zmem5 (i := 63) rfl rfl, zsel8 (q := (M_Scribe_write.1, 3)) (i := 3) rfl rfl⟩
theorem k_Scribe_writeWord : ZOK M_Scribe_writeWord := zok0 (zmem5 (i := 70) rfl rfl) (zmem1 (i := 8) rfl rfl) pl_Scribe
theorem v_Scribe_writeWord : ZVirt M_Scribe_writeWord := ⟨zmem5 (i := 69) rfl rfl, zsel8 (q := (M_Scribe_writeWord.1, 3)) (i := 4) rfl rfl⟩
theorem k_Scribe_put : ZOK M_Scribe_put := zok0 (zmem5 (i := 76) rfl rfl) (zmem1 (i := 8) rfl rfl) pl_Scribe
theorem v_Scribe_put : ZVirt M_Scribe_put := ⟨zmem5 (i := 75) rfl rfl, zsel8 (q := (M_Scribe_put.1, 3)) (i := 5) rfl rfl⟩
theorem k_Scribe_writeNumber : ZOK M_Scribe_writeNumber := zok0 (zmem5 (i := 80) rfl rfl) (zmem1 (i := 8) rfl rfl) pl_Scribe
theorem v_Scribe_writeNumber : ZVirt M_Scribe_writeNumber := ⟨zmem5 (i := 79) rfl rfl, zsel8 (q := (M_Scribe_writeNumber.1, 3)) (i := 6) rfl rfl⟩
theorem k_Scribe_writeWeights : ZOK M_Scribe_writeWeights := zok0 (zmem5 (i := 84) rfl rfl) (zmem1 (i := 8) rfl rfl) pl_Scribe
theorem v_Scribe_writeWeights : ZVirt M_Scribe_writeWeights := ⟨zmem5 (i := 83) rfl rfl, zsel8 (q := (M_Scribe_writeWeights.1, 3)) (i := 7) rfl rfl⟩
theorem k_Scribe_writeSpots : ZOK M_Scribe_writeSpots := zok0 (zmem5 (i := 91) rfl rfl) (zmem1 (i := 8) rfl rfl) pl_Scribe
theorem v_Scribe_writeSpots : ZVirt M_Scribe_writeSpots := ⟨zmem5 (i := 90) rfl rfl, zsel8 (q := (M_Scribe_writeSpots.1, 3)) (i := 8) rfl rfl⟩
theorem k_Scribe_writeSpot : ZOK M_Scribe_writeSpot := zok0 (zmem5 (i := 96) rfl rfl) (zmem1 (i := 8) rfl rfl) pl_Scribe
theorem v_Scribe_writeSpot : ZVirt M_Scribe_writeSpot := ⟨zmem5 (i := 95) rfl rfl, zsel8 (q := (M_Scribe_writeSpot.1, 3)) (i := 9) rfl rfl⟩
theorem k_Scribe_writeEntry : ZOK M_Scribe_writeEntry := zok0 (zmem5 (i := 100) rfl rfl) (zmem1 (i := 8) rfl rfl) pl_Scribe
theorem v_Scribe_writeEntry : ZVirt M_Scribe_writeEntry := ⟨zmem5 (i := 99) rfl rfl, zsel8 (q := (M_Scribe_writeEntry.1, 3)) (i := 10) rfl rfl⟩
theorem k_Ap_count : ZOK M_Ap_count := zok0 (zmem5 (i := 105) rfl rfl) (zmem1 (i := 1) rfl rfl) pl_Ap
theorem v_Ap_count : ZVirt M_Ap_count := ⟨zmem5 (i := 103) rfl rfl, zmem5 (i := 104) rfl rfl⟩
theorem k_Mo_init : ZOK M_Mo_init := zok0 (zmem5 (i := 110) rfl rfl) (zmem1 (i := 9) rfl rfl) pl_Mo
theorem i_Mo_init : ZInit M_Mo_init := ⟨zmem5 (i := 109) rfl rfl, rfl⟩
theorem k_Mo_feed : ZOK M_Mo_feed := zok0 (zmem5 (i := 194) rfl rfl) (zmem1 (i := 9) rfl rfl) pl_Mo
theorem v_Mo_feed : ZVirt M_Mo_feed := ⟨zmem5 (i := 192) rfl rfl, zmem5 (i := 193) rfl rfl⟩
theorem k_Mo_puts : ZOK M_Mo_puts := zok0 (zmem5 (i := 198) rfl rfl) (zmem1 (i := 9) rfl rfl) pl_Mo
theorem v_Mo_puts : ZVirt M_Mo_puts := ⟨zmem5 (i := 197) rfl rfl, zsel8 (q := (M_Mo_puts.1, 26)) (i := 11) rfl rfl⟩
theorem k_Mo_end : ZOK M_Mo_end := zok0 (zmem5 (i := 202) rfl rfl) (zmem1 (i := 9) rfl rfl) pl_Mo
theorem v_Mo_end : ZVirt M_Mo_end := ⟨zmem5 (i := 200) rfl rfl, zmem5 (i := 201) rfl rfl⟩
theorem k_Mo_tell : ZOK M_Mo_tell := zok0 (zmem5 (i := 206) rfl rfl) (zmem1 (i := 9) rfl rfl) pl_Mo
theorem v_Mo_tell : ZVirt M_Mo_tell := ⟨zmem5 (i := 204) rfl rfl, zmem5 (i := 205) rfl rfl⟩
theorem k_Mo_takes : ZOK M_Mo_takes := zok0 (zmem5 (i := 211) rfl rfl) (zmem1 (i := 9) rfl rfl) pl_Mo
theorem v_Mo_takes : ZVirt M_Mo_takes := ⟨zmem5 (i := 210) rfl rfl, zsel8 (q := (M_Mo_takes.1, 26)) (i := 12) rfl rfl⟩
theorem k_Mo_next : ZOK M_Mo_next := zok0 (zmem5 (i := 215) rfl rfl) (zmem1 (i := 9) rfl rfl) pl_Mo
theorem v_Mo_next : ZVirt M_Mo_next := ⟨zmem5 (i := 214) rfl rfl, zsel8 (q := (M_Mo_next.1, 26)) (i := 13) rfl rfl⟩
theorem k_Mo_sign_0 : ZOK M_Mo_sign_0 := zok0 (zmem5 (i := 219) rfl rfl) (zmem1 (i := 9) rfl rfl) pl_Mo
theorem v_Mo_sign_0 : ZVirt M_Mo_sign_0 := ⟨zmem5 (i := 218) rfl rfl, zsel8 (q := (M_Mo_sign_0.1, 26)) (i := 14) rfl rfl⟩
theorem k_Mo_in : ZOK M_Mo_in := zok0 (zmem5 (i := 224) rfl rfl) (zmem1 (i := 9) rfl rfl) pl_Mo
theorem s_Mo_in : ZStat M_Mo_in := zmem5 (i := 223) rfl rfl
theorem k_Mo_fails : ZOK M_Mo_fails := zok0 (zmem5 (i := 230) rfl rfl) (zmem1 (i := 9) rfl rfl) pl_Mo
theorem v_Mo_fails : ZVirt M_Mo_fails := ⟨zmem5 (i := 229) rfl rfl, zsel8 (q := (M_Mo_fails.1, 26)) (i := 15) rfl rfl⟩
theorem k_Mo_isRight : ZOK M_Mo_isRight := zok0 (zmem5 (i := 234) rfl rfl) (zmem1 (i := 9) rfl rfl) pl_Mo
theorem v_Mo_isRight : ZVirt M_Mo_isRight := ⟨zmem5 (i := 233) rfl rfl, zsel9 (q := (M_Mo_isRight.1, 26)) (i := 0) rfl rfl⟩
theorem k_Mo_number : ZOK M_Mo_number := zok0 (zmem5 (i := 238) rfl rfl) (zmem1 (i := 9) rfl rfl) pl_Mo
theorem v_Mo_number : ZVirt M_Mo_number := ⟨zmem5 (i := 237) rfl rfl, zsel9 (q := (M_Mo_number.1, 26)) (i := 1) rfl rfl⟩
theorem k_Mo_twoOf : ZOK M_Mo_twoOf := zok0 (zmem6 (i := 4) rfl rfl) (zmem1 (i := 9) rfl rfl) pl_Mo
theorem s_Mo_twoOf : ZStat M_Mo_twoOf := zmem6 (i := 3) rfl rfl
theorem k_Mo_readsPart : ZOK M_Mo_readsPart := zok0 (zmem6 (i := 8) rfl rfl) (zmem1 (i := 9) rfl rfl) pl_Mo
theorem v_Mo_readsPart : ZVirt M_Mo_readsPart := ⟨zmem6 (i := 7) rfl rfl, zsel9 (q := (M_Mo_readsPart.1, 26)) (i := 2) rfl rfl⟩
theorem k_Mo_readsWins : ZOK M_Mo_readsWins := zok0 (zmem6 (i := 19) rfl rfl) (zmem1 (i := 9) rfl rfl) pl_Mo
theorem v_Mo_readsWins : ZVirt M_Mo_readsWins := ⟨zmem6 (i := 18) rfl rfl, zsel9 (q := (M_Mo_readsWins.1, 26)) (i := 3) rfl rfl⟩
theorem k_Mo_fourOf : ZOK M_Mo_fourOf := zok0 (zmem6 (i := 22) rfl rfl) (zmem1 (i := 9) rfl rfl) pl_Mo
theorem s_Mo_fourOf : ZStat M_Mo_fourOf := zmem6 (i := 21) rfl rfl
theorem k_Mo_moves : ZOK M_Mo_moves := zok0 (zmem6 (i := 25) rfl rfl) (zmem1 (i := 9) rfl rfl) pl_Mo
theorem s_Mo_moves : ZStat M_Mo_moves := zmem6 (i := 24) rfl rfl
theorem k_Mo_undo : ZOK M_Mo_undo := zok0 (zmem6 (i := 29) rfl rfl) (zmem1 (i := 9) rfl rfl) pl_Mo
theorem v_Mo_undo : ZVirt M_Mo_undo := ⟨zmem6 (i := 27) rfl rfl, zmem6 (i := 28) rfl rfl⟩
theorem k_Mo_keep : ZOK M_Mo_keep := zok0 (zmem6 (i := 33) rfl rfl) (zmem1 (i := 9) rfl rfl) pl_Mo
theorem v_Mo_keep : ZVirt M_Mo_keep := ⟨zmem6 (i := 31) rfl rfl, zmem6 (i := 32) rfl rfl⟩
theorem k_Mo_back : ZOK M_Mo_back := zok0 (zmem6 (i := 37) rfl rfl) (zmem1 (i := 9) rfl rfl) pl_Mo
theorem v_Mo_back : ZVirt M_Mo_back := ⟨zmem6 (i := 35) rfl rfl, zmem6 (i := 36) rfl rfl⟩
theorem k_Mo_weigh : ZOK M_Mo_weigh := zok0 (zmem6 (i := 41) rfl rfl) (zmem1 (i := 9) rfl rfl) pl_Mo
theorem v_Mo_weigh : ZVirt M_Mo_weigh := ⟨zmem6 (i := 39) rfl rfl, zmem6 (i := 40) rfl rfl⟩
theorem k_Mo_areTwo : ZOK M_Mo_areTwo := zok0 (zmem6 (i := 45) rfl rfl) (zmem1 (i := 9) rfl rfl) pl_Mo
theorem v_Mo_areTwo : ZVirt M_Mo_areTwo := ⟨zmem6 (i := 44) rfl rfl, zsel9 (q := (M_Mo_areTwo.1, 26)) (i := 4) rfl rfl⟩
theorem k_Mo_isQuestion : ZOK M_Mo_isQuestion := zok0 (zmem6 (i := 49) rfl rfl) (zmem1 (i := 9) rfl rfl) pl_Mo
theorem v_Mo_isQuestion : ZVirt M_Mo_isQuestion := ⟨zmem6 (i := 48) rfl rfl, zsel9 (q := (M_Mo_isQuestion.1, 26)) (i := 5) rfl rfl⟩
theorem k_Mo_questions : ZOK M_Mo_questions := zok0 (zmem6 (i := 53) rfl rfl) (zmem1 (i := 9) rfl rfl) pl_Mo
theorem v_Mo_questions : ZVirt M_Mo_questions := ⟨zmem6 (i := 52) rfl rfl, zsel9 (q := (M_Mo_questions.1, 26)) (i := 6) rfl rfl⟩
theorem k_Mo_becomes : ZOK M_Mo_becomes := zok0 (zmem6 (i := 58) rfl rfl) (zmem1 (i := 9) rfl rfl) pl_Mo
theorem v_Mo_becomes : ZVirt M_Mo_becomes := ⟨zmem6 (i := 57) rfl rfl, zsel9 (q := (M_Mo_becomes.1, 26)) (i := 7) rfl rfl⟩
theorem k_Mo_keepsPast : ZOK M_Mo_keepsPast := zok0 (zmem6 (i := 62) rfl rfl) (zmem1 (i := 9) rfl rfl) pl_Mo
theorem v_Mo_keepsPast : ZVirt M_Mo_keepsPast := ⟨zmem6 (i := 61) rfl rfl, zsel9 (q := (M_Mo_keepsPast.1, 26)) (i := 8) rfl rfl⟩
theorem k_Mo_box : ZOK M_Mo_box := zok0 (zmem6 (i := 66) rfl rfl) (zmem1 (i := 9) rfl rfl) pl_Mo
theorem v_Mo_box : ZVirt M_Mo_box := ⟨zmem6 (i := 64) rfl rfl, zmem6 (i := 65) rfl rfl⟩
theorem k_Mo_areFour : ZOK M_Mo_areFour := zok0 (zmem6 (i := 70) rfl rfl) (zmem1 (i := 9) rfl rfl) pl_Mo
theorem v_Mo_areFour : ZVirt M_Mo_areFour := ⟨zmem6 (i := 69) rfl rfl, zsel9 (q := (M_Mo_areFour.1, 26)) (i := 9) rfl rfl⟩
theorem k_Mo_isAnswer : ZOK M_Mo_isAnswer := zok0 (zmem6 (i := 74) rfl rfl) (zmem1 (i := 9) rfl rfl) pl_Mo
theorem v_Mo_isAnswer : ZVirt M_Mo_isAnswer := ⟨zmem6 (i := 73) rfl rfl, zsel9 (q := (M_Mo_isAnswer.1, 26)) (i := 10) rfl rfl⟩
theorem k_Mo_answers : ZOK M_Mo_answers := zok0 (zmem6 (i := 78) rfl rfl) (zmem1 (i := 9) rfl rfl) pl_Mo
theorem v_Mo_answers : ZVirt M_Mo_answers := ⟨zmem6 (i := 77) rfl rfl, zsel9 (q := (M_Mo_answers.1, 26)) (i := 11) rfl rfl⟩
theorem k_Mo_decide : ZOK M_Mo_decide := zok0 (zmem6 (i := 83) rfl rfl) (zmem1 (i := 9) rfl rfl) pl_Mo
theorem v_Mo_decide : ZVirt M_Mo_decide := ⟨zmem6 (i := 81) rfl rfl, zmem6 (i := 82) rfl rfl⟩
theorem k_Mo_parity : ZOK M_Mo_parity := zok0 (zmem6 (i := 87) rfl rfl) (zmem1 (i := 9) rfl rfl) pl_Mo
theorem v_Mo_parity : ZVirt M_Mo_parity := ⟨zmem6 (i := 85) rfl rfl, zmem6 (i := 86) rfl rfl⟩
theorem k_Mo_isParity : ZOK M_Mo_isParity := zok0 (zmem6 (i := 91) rfl rfl) (zmem1 (i := 9) rfl rfl) pl_Mo
theorem v_Mo_isParity : ZVirt M_Mo_isParity := ⟨zmem6 (i := 90) rfl rfl, zsel9 (q := (M_Mo_isParity.1, 26)) (i := 12) rfl rfl⟩
theorem k_Mo_isWin : ZOK M_Mo_isWin := zok0 (zmem6 (i := 95) rfl rfl) (zmem1 (i := 9) rfl rfl) pl_Mo
theorem v_Mo_isWin : ZVirt M_Mo_isWin := ⟨zmem6 (i := 94) rfl rfl, zsel9 (q := (M_Mo_isWin.1, 26)) (i := 13) rfl rfl⟩
theorem k_Mo_truth : ZOK M_Mo_truth := zok0 (zmem6 (i := 98) rfl rfl) (zmem1 (i := 9) rfl rfl) pl_Mo
theorem s_Mo_truth : ZStat M_Mo_truth := zmem6 (i := 97) rfl rfl
theorem k_Mo_exchange : ZOK M_Mo_exchange := zok0 (zmem6 (i := 102) rfl rfl) (zmem1 (i := 9) rfl rfl) pl_Mo
theorem v_Mo_exchange : ZVirt M_Mo_exchange := ⟨zmem6 (i := 100) rfl rfl, zmem6 (i := 101) rfl rfl⟩
theorem k_Mo_isPlayer : ZOK M_Mo_isPlayer := zok0 (zmem6 (i := 105) rfl rfl) (zmem1 (i := 9) rfl rfl) pl_Mo
theorem s_Mo_isPlayer : ZStat M_Mo_isPlayer := zmem6 (i := 104) rfl rfl
theorem k_Mo_exchanges : ZOK M_Mo_exchanges := zok0 (zmem6 (i := 109) rfl rfl) (zmem1 (i := 9) rfl rfl) pl_Mo
theorem v_Mo_exchanges : ZVirt M_Mo_exchanges := ⟨zmem6 (i := 108) rfl rfl, zsel9 (q := (M_Mo_exchanges.1, 26)) (i := 14) rfl rfl⟩
theorem k_Mo_swap : ZOK M_Mo_swap := zok0 (zmem6 (i := 113) rfl rfl) (zmem1 (i := 9) rfl rfl) pl_Mo
theorem v_Mo_swap : ZVirt M_Mo_swap := ⟨zmem6 (i := 111) rfl rfl, zmem6 (i := 112) rfl rfl⟩
theorem k_Mo_hasGame : ZOK M_Mo_hasGame := zok0 (zmem6 (i := 117) rfl rfl) (zmem1 (i := 9) rfl rfl) pl_Mo
theorem v_Mo_hasGame : ZVirt M_Mo_hasGame := ⟨zmem6 (i := 116) rfl rfl, zsel9 (q := (M_Mo_hasGame.1, 26)) (i := 15) rfl rfl⟩
theorem k_Mo_drop : ZOK M_Mo_drop := zok0 (zmem6 (i := 121) rfl rfl) (zmem1 (i := 9) rfl rfl) pl_Mo
theorem v_Mo_drop : ZVirt M_Mo_drop := ⟨zmem6 (i := 119) rfl rfl, zmem6 (i := 120) rfl rfl⟩
theorem k_Mo_copies : ZOK M_Mo_copies := zok0 (zmem6 (i := 125) rfl rfl) (zmem1 (i := 9) rfl rfl) pl_Mo
theorem v_Mo_copies : ZVirt M_Mo_copies := ⟨zmem6 (i := 124) rfl rfl, zsel10 (q := (M_Mo_copies.1, 26)) (i := 0) rfl rfl⟩
theorem k_Mo_copy : ZOK M_Mo_copy := zok0 (zmem6 (i := 129) rfl rfl) (zmem1 (i := 9) rfl rfl) pl_Mo
theorem v_Mo_copy : ZVirt M_Mo_copy := ⟨zmem6 (i := 127) rfl rfl, zmem6 (i := 128) rfl rfl⟩
theorem k_Mo_mix : ZOK M_Mo_mix := zok0 (zmem6 (i := 133) rfl rfl) (zmem1 (i := 9) rfl rfl) pl_Mo
theorem v_Mo_mix : ZVirt M_Mo_mix := ⟨zmem6 (i := 131) rfl rfl, zmem6 (i := 132) rfl rfl⟩
theorem k_Mo_lays : ZOK M_Mo_lays := zok0 (zmem6 (i := 137) rfl rfl) (zmem1 (i := 9) rfl rfl) pl_Mo
theorem v_Mo_lays : ZVirt M_Mo_lays := ⟨zmem6 (i := 136) rfl rfl, zsel10 (q := (M_Mo_lays.1, 26)) (i := 1) rfl rfl⟩
theorem k_Mo_rowOf : ZOK M_Mo_rowOf := zok0 (zmem6 (i := 141) rfl rfl) (zmem1 (i := 9) rfl rfl) pl_Mo
theorem v_Mo_rowOf : ZVirt M_Mo_rowOf := ⟨zmem6 (i := 140) rfl rfl, zsel10 (q := (M_Mo_rowOf.1, 26)) (i := 2) rfl rfl⟩
theorem s_Math_floorMod : ZStat M_Math_floorMod := zmem6 (i := 143) rfl rfl
theorem k_Mo_boxOf : ZOK M_Mo_boxOf := zok0 (zmem6 (i := 148) rfl rfl) (zmem1 (i := 9) rfl rfl) pl_Mo
theorem v_Mo_boxOf : ZVirt M_Mo_boxOf := ⟨zmem6 (i := 147) rfl rfl, zsel10 (q := (M_Mo_boxOf.1, 26)) (i := 3) rfl rfl⟩
theorem k_Mo_draw : ZOK M_Mo_draw := zok0 (zmem6 (i := 152) rfl rfl) (zmem1 (i := 9) rfl rfl) pl_Mo
theorem v_Mo_draw : ZVirt M_Mo_draw := ⟨zmem6 (i := 150) rfl rfl, zmem6 (i := 151) rfl rfl⟩
theorem k_Mo_draws : ZOK M_Mo_draws := zok0 (zmem6 (i := 156) rfl rfl) (zmem1 (i := 9) rfl rfl) pl_Mo
theorem v_Mo_draws : ZVirt M_Mo_draws := ⟨zmem6 (i := 155) rfl rfl, zsel10 (q := (M_Mo_draws.1, 26)) (i := 4) rfl rfl⟩
theorem k_Mo_winsMany : ZOK M_Mo_winsMany := zok0 (zmem6 (i := 161) rfl rfl) (zmem1 (i := 9) rfl rfl) pl_Mo
theorem v_Mo_winsMany : ZVirt M_Mo_winsMany := ⟨zmem6 (i := 160) rfl rfl, zsel10 (q := (M_Mo_winsMany.1, 26)) (i := 5) rfl rfl⟩
theorem k_Mo_wins : ZOK M_Mo_wins := zok0 (zmem6 (i := 165) rfl rfl) (zmem1 (i := 9) rfl rfl) pl_Mo
theorem v_Mo_wins : ZVirt M_Mo_wins := ⟨zmem6 (i := 163) rfl rfl, zmem6 (i := 164) rfl rfl⟩
theorem k_Mo_weight : ZOK M_Mo_weight := zok0 (zmem6 (i := 169) rfl rfl) (zmem1 (i := 9) rfl rfl) pl_Mo
theorem v_Mo_weight : ZVirt M_Mo_weight := ⟨zmem6 (i := 167) rfl rfl, zmem6 (i := 168) rfl rfl⟩
theorem k_Mo_weightOf : ZOK M_Mo_weightOf := zok0 (zmem6 (i := 173) rfl rfl) (zmem1 (i := 9) rfl rfl) pl_Mo
theorem v_Mo_weightOf : ZVirt M_Mo_weightOf := ⟨zmem6 (i := 172) rfl rfl, zsel10 (q := (M_Mo_weightOf.1, 26)) (i := 6) rfl rfl⟩
theorem k_Mo_worth : ZOK M_Mo_worth := zok0 (zmem6 (i := 177) rfl rfl) (zmem1 (i := 9) rfl rfl) pl_Mo
theorem v_Mo_worth : ZVirt M_Mo_worth := ⟨zmem6 (i := 175) rfl rfl, zmem6 (i := 176) rfl rfl⟩
theorem k_Mo_mostWorth : ZOK M_Mo_mostWorth := zok0 (zmem6 (i := 181) rfl rfl) (zmem1 (i := 9) rfl rfl) pl_Mo
theorem v_Mo_mostWorth : ZVirt M_Mo_mostWorth := ⟨zmem6 (i := 180) rfl rfl, zsel10 (q := (M_Mo_mostWorth.1, 26)) (i := 7) rfl rfl⟩
theorem k_Mo_laysFirst : ZOK M_Mo_laysFirst := zok0 (zmem6 (i := 185) rfl rfl) (zmem1 (i := 9) rfl rfl) pl_Mo
theorem v_Mo_laysFirst : ZVirt M_Mo_laysFirst := ⟨zmem6 (i := 184) rfl rfl, zsel10 (q := (M_Mo_laysFirst.1, 26)) (i := 8) rfl rfl⟩
theorem k_Mo_reached : ZOK M_Mo_reached := zok0 (zmem6 (i := 189) rfl rfl) (zmem1 (i := 9) rfl rfl) pl_Mo
theorem v_Mo_reached : ZVirt M_Mo_reached := ⟨zmem6 (i := 188) rfl rfl, zsel10 (q := (M_Mo_reached.1, 26)) (i := 9) rfl rfl⟩
theorem k_Mo_laysBy : ZOK M_Mo_laysBy := zok0 (zmem6 (i := 193) rfl rfl) (zmem1 (i := 9) rfl rfl) pl_Mo
theorem v_Mo_laysBy : ZVirt M_Mo_laysBy := ⟨zmem6 (i := 192) rfl rfl, zsel10 (q := (M_Mo_laysBy.1, 26)) (i := 10) rfl rfl⟩
theorem k_Mo_seen : ZOK M_Mo_seen := zok0 (zmem6 (i := 197) rfl rfl) (zmem1 (i := 9) rfl rfl) pl_Mo
theorem v_Mo_seen : ZVirt M_Mo_seen := ⟨zmem6 (i := 196) rfl rfl, zsel10 (q := (M_Mo_seen.1, 26)) (i := 11) rfl rfl⟩
theorem k_Mo_weightSeen : ZOK M_Mo_weightSeen := zok0 (zmem6 (i := 201) rfl rfl) (zmem1 (i := 9) rfl rfl) pl_Mo
theorem v_Mo_weightSeen : ZVirt M_Mo_weightSeen := ⟨zmem6 (i := 200) rfl rfl, zsel10 (q := (M_Mo_weightSeen.1, 26)) (i := 12) rfl rfl⟩
theorem k_Mo_bestBy : ZOK M_Mo_bestBy := zok0 (zmem6 (i := 205) rfl rfl) (zmem1 (i := 9) rfl rfl) pl_Mo
theorem v_Mo_bestBy : ZVirt M_Mo_bestBy := ⟨zmem6 (i := 204) rfl rfl, zsel10 (q := (M_Mo_bestBy.1, 26)) (i := 13) rfl rfl⟩
theorem k_Mo_worstBy : ZOK M_Mo_worstBy := zok0 (zmem6 (i := 210) rfl rfl) (zmem1 (i := 9) rfl rfl) pl_Mo
theorem v_Mo_worstBy : ZVirt M_Mo_worstBy := ⟨zmem6 (i := 209) rfl rfl, zsel10 (q := (M_Mo_worstBy.1, 26)) (i := 14) rfl rfl⟩
theorem k_Mo_goesOn : ZOK M_Mo_goesOn := zok0 (zmem6 (i := 214) rfl rfl) (zmem1 (i := 9) rfl rfl) pl_Mo
theorem v_Mo_goesOn : ZVirt M_Mo_goesOn := ⟨zmem6 (i := 213) rfl rfl, zsel10 (q := (M_Mo_goesOn.1, 26)) (i := 15) rfl rfl⟩
theorem k_Mo_allWeights : ZOK M_Mo_allWeights := zok0 (zmem6 (i := 218) rfl rfl) (zmem1 (i := 9) rfl rfl) pl_Mo
theorem v_Mo_allWeights : ZVirt M_Mo_allWeights := ⟨zmem6 (i := 217) rfl rfl, zsel11 (q := (M_Mo_allWeights.1, 26)) (i := 0) rfl rfl⟩
theorem k_Mo_leastWorth : ZOK M_Mo_leastWorth := zok0 (zmem6 (i := 222) rfl rfl) (zmem1 (i := 9) rfl rfl) pl_Mo
theorem v_Mo_leastWorth : ZVirt M_Mo_leastWorth := ⟨zmem6 (i := 221) rfl rfl, zsel11 (q := (M_Mo_leastWorth.1, 26)) (i := 1) rfl rfl⟩
theorem k_Mo_sureOf : ZOK M_Mo_sureOf := zok0 (zmem6 (i := 226) rfl rfl) (zmem1 (i := 9) rfl rfl) pl_Mo
theorem v_Mo_sureOf : ZVirt M_Mo_sureOf := ⟨zmem6 (i := 225) rfl rfl, zsel11 (q := (M_Mo_sureOf.1, 26)) (i := 2) rfl rfl⟩
theorem k_Mo_toldOf : ZOK M_Mo_toldOf := zok0 (zmem6 (i := 230) rfl rfl) (zmem1 (i := 9) rfl rfl) pl_Mo
theorem v_Mo_toldOf : ZVirt M_Mo_toldOf := ⟨zmem6 (i := 229) rfl rfl, zsel11 (q := (M_Mo_toldOf.1, 26)) (i := 3) rfl rfl⟩
theorem k_Mo_sure : ZOK M_Mo_sure := zok0 (zmem6 (i := 234) rfl rfl) (zmem1 (i := 9) rfl rfl) pl_Mo
theorem v_Mo_sure : ZVirt M_Mo_sure := ⟨zmem6 (i := 232) rfl rfl, zmem6 (i := 233) rfl rfl⟩
theorem k_Mo_play : ZOK M_Mo_play := zok0 (zmem6 (i := 238) rfl rfl) (zmem1 (i := 9) rfl rfl) pl_Mo
theorem v_Mo_play : ZVirt M_Mo_play := ⟨zmem6 (i := 236) rfl rfl, zmem6 (i := 237) rfl rfl⟩
theorem k_Mo_worthNow : ZOK M_Mo_worthNow := zok0 (zmem7 (i := 2) rfl rfl) (zmem1 (i := 9) rfl rfl) pl_Mo
theorem v_Mo_worthNow : ZVirt M_Mo_worthNow := ⟨zmem7 (i := 1) rfl rfl, zsel11 (q := (M_Mo_worthNow.1, 26)) (i := 4) rfl rfl⟩
theorem k_Mo_hangs : ZOK M_Mo_hangs := zok0 (zmem7 (i := 6) rfl rfl) (zmem1 (i := 9) rfl rfl) pl_Mo
theorem v_Mo_hangs : ZVirt M_Mo_hangs := ⟨zmem7 (i := 4) rfl rfl, zmem7 (i := 5) rfl rfl⟩
theorem k_Mo_reply : ZOK M_Mo_reply := zok0 (zmem7 (i := 10) rfl rfl) (zmem1 (i := 9) rfl rfl) pl_Mo
theorem v_Mo_reply : ZVirt M_Mo_reply := ⟨zmem7 (i := 8) rfl rfl, zmem7 (i := 9) rfl rfl⟩
theorem k_Mo_replies : ZOK M_Mo_replies := zok0 (zmem7 (i := 14) rfl rfl) (zmem1 (i := 9) rfl rfl) pl_Mo
theorem v_Mo_replies : ZVirt M_Mo_replies := ⟨zmem7 (i := 13) rfl rfl, zsel11 (q := (M_Mo_replies.1, 26)) (i := 5) rfl rfl⟩
theorem k_Mo_bests : ZOK M_Mo_bests := zok0 (zmem7 (i := 18) rfl rfl) (zmem1 (i := 9) rfl rfl) pl_Mo
theorem v_Mo_bests : ZVirt M_Mo_bests := ⟨zmem7 (i := 16) rfl rfl, zmem7 (i := 17) rfl rfl⟩
theorem k_Mo_allWays : ZOK M_Mo_allWays := zok0 (zmem7 (i := 22) rfl rfl) (zmem1 (i := 9) rfl rfl) pl_Mo
theorem v_Mo_allWays : ZVirt M_Mo_allWays := ⟨zmem7 (i := 21) rfl rfl, zsel11 (q := (M_Mo_allWays.1, 26)) (i := 6) rfl rfl⟩
theorem k_Mo_ways : ZOK M_Mo_ways := zok0 (zmem7 (i := 26) rfl rfl) (zmem1 (i := 9) rfl rfl) pl_Mo
theorem v_Mo_ways : ZVirt M_Mo_ways := ⟨zmem7 (i := 25) rfl rfl, zsel11 (q := (M_Mo_ways.1, 26)) (i := 7) rfl rfl⟩
theorem k_Mo_lost : ZOK M_Mo_lost := zok0 (zmem7 (i := 31) rfl rfl) (zmem1 (i := 9) rfl rfl) pl_Mo
theorem v_Mo_lost : ZVirt M_Mo_lost := ⟨zmem7 (i := 29) rfl rfl, zmem7 (i := 30) rfl rfl⟩
theorem k_Mo_best : ZOK M_Mo_best := zok0 (zmem7 (i := 35) rfl rfl) (zmem1 (i := 9) rfl rfl) pl_Mo
theorem v_Mo_best : ZVirt M_Mo_best := ⟨zmem7 (i := 33) rfl rfl, zmem7 (i := 34) rfl rfl⟩
theorem k_Mo_laysBest : ZOK M_Mo_laysBest := zok0 (zmem7 (i := 39) rfl rfl) (zmem1 (i := 9) rfl rfl) pl_Mo
theorem v_Mo_laysBest : ZVirt M_Mo_laysBest := ⟨zmem7 (i := 38) rfl rfl, zsel11 (q := (M_Mo_laysBest.1, 26)) (i := 8) rfl rfl⟩
theorem k_Mo_mean : ZOK M_Mo_mean := zok0 (zmem7 (i := 43) rfl rfl) (zmem1 (i := 9) rfl rfl) pl_Mo
theorem v_Mo_mean : ZVirt M_Mo_mean := ⟨zmem7 (i := 41) rfl rfl, zmem7 (i := 42) rfl rfl⟩
theorem k_Mo_common : ZOK M_Mo_common := zok0 (zmem7 (i := 46) rfl rfl) (zmem1 (i := 9) rfl rfl) pl_Mo
theorem s_Mo_common : ZStat M_Mo_common := zmem7 (i := 45) rfl rfl
theorem k_Mo_talk : ZOK M_Mo_talk := zok0 (zmem7 (i := 50) rfl rfl) (zmem1 (i := 9) rfl rfl) pl_Mo
theorem v_Mo_talk : ZVirt M_Mo_talk := ⟨zmem7 (i := 48) rfl rfl, zmem7 (i := 49) rfl rfl⟩
theorem k_Mo_toldWorth : ZOK M_Mo_toldWorth := zok0 (zmem7 (i := 54) rfl rfl) (zmem1 (i := 9) rfl rfl) pl_Mo
theorem v_Mo_toldWorth : ZVirt M_Mo_toldWorth := ⟨zmem7 (i := 53) rfl rfl, zsel11 (q := (M_Mo_toldWorth.1, 26)) (i := 9) rfl rfl⟩
theorem k_Mo_without : ZOK M_Mo_without := zok0 (zmem7 (i := 58) rfl rfl) (zmem1 (i := 9) rfl rfl) pl_Mo
theorem v_Mo_without : ZVirt M_Mo_without := ⟨zmem7 (i := 56) rfl rfl, zmem7 (i := 57) rfl rfl⟩
theorem k_Mo_mostWithout : ZOK M_Mo_mostWithout := zok0 (zmem7 (i := 62) rfl rfl) (zmem1 (i := 9) rfl rfl) pl_Mo
theorem v_Mo_mostWithout : ZVirt M_Mo_mostWithout := ⟨zmem7 (i := 61) rfl rfl, zsel11 (q := (M_Mo_mostWithout.1, 26)) (i := 10) rfl rfl⟩
theorem k_Mo_cut : ZOK M_Mo_cut := zok0 (zmem7 (i := 66) rfl rfl) (zmem1 (i := 9) rfl rfl) pl_Mo
theorem v_Mo_cut : ZVirt M_Mo_cut := ⟨zmem7 (i := 64) rfl rfl, zmem7 (i := 65) rfl rfl⟩
theorem k_Mo_lesser : ZOK M_Mo_lesser := zok0 (zmem7 (i := 70) rfl rfl) (zmem1 (i := 9) rfl rfl) pl_Mo
theorem v_Mo_lesser : ZVirt M_Mo_lesser := ⟨zmem7 (i := 68) rfl rfl, zmem7 (i := 69) rfl rfl⟩
theorem k_Mo_same : ZOK M_Mo_same := zok0 (zmem7 (i := 74) rfl rfl) (zmem1 (i := 9) rfl rfl) pl_Mo
theorem v_Mo_same : ZVirt M_Mo_same := ⟨zmem7 (i := 72) rfl rfl, zmem7 (i := 73) rfl rfl⟩
theorem k_Mo_climb : ZOK M_Mo_climb := zok0 (zmem7 (i := 78) rfl rfl) (zmem1 (i := 9) rfl rfl) pl_Mo
theorem v_Mo_climb : ZVirt M_Mo_climb := ⟨zmem7 (i := 76) rfl rfl, zmem7 (i := 77) rfl rfl⟩
theorem k_Mo_parts : ZOK M_Mo_parts := zok0 (zmem7 (i := 83) rfl rfl) (zmem1 (i := 9) rfl rfl) pl_Mo
theorem v_Mo_parts : ZVirt M_Mo_parts := ⟨zmem7 (i := 81) rfl rfl, zmem7 (i := 82) rfl rfl⟩
theorem k_Mo_laysParts : ZOK M_Mo_laysParts := zok0 (zmem7 (i := 88) rfl rfl) (zmem1 (i := 9) rfl rfl) pl_Mo
theorem v_Mo_laysParts : ZVirt M_Mo_laysParts := ⟨zmem7 (i := 87) rfl rfl, zsel11 (q := (M_Mo_laysParts.1, 26)) (i := 11) rfl rfl⟩
theorem k_Mo_sign_2 : ZOK M_Mo_sign_2 := zok0 (zmem7 (i := 92) rfl rfl) (zmem1 (i := 9) rfl rfl) pl_Mo
theorem v_Mo_sign_2 : ZVirt M_Mo_sign_2 := ⟨zmem7 (i := 90) rfl rfl, zmem7 (i := 91) rfl rfl⟩
theorem k_Mo_signOf : ZOK M_Mo_signOf := zok0 (zmem7 (i := 96) rfl rfl) (zmem1 (i := 9) rfl rfl) pl_Mo
theorem v_Mo_signOf : ZVirt M_Mo_signOf := ⟨zmem7 (i := 95) rfl rfl, zsel11 (q := (M_Mo_signOf.1, 26)) (i := 12) rfl rfl⟩
theorem k_Mo_bias : ZOK M_Mo_bias := zok0 (zmem7 (i := 100) rfl rfl) (zmem1 (i := 9) rfl rfl) pl_Mo
theorem v_Mo_bias : ZVirt M_Mo_bias := ⟨zmem7 (i := 98) rfl rfl, zmem7 (i := 99) rfl rfl⟩
theorem k_Mo_isParityGame : ZOK M_Mo_isParityGame := zok0 (zmem7 (i := 104) rfl rfl) (zmem1 (i := 9) rfl rfl) pl_Mo
theorem v_Mo_isParityGame : ZVirt M_Mo_isParityGame := ⟨zmem7 (i := 103) rfl rfl, zsel11 (q := (M_Mo_isParityGame.1, 26)) (i := 13) rfl rfl⟩
theorem k_Mo_squareOf : ZOK M_Mo_squareOf := zok0 (zmem7 (i := 108) rfl rfl) (zmem1 (i := 9) rfl rfl) pl_Mo
theorem v_Mo_squareOf : ZVirt M_Mo_squareOf := ⟨zmem7 (i := 107) rfl rfl, zsel11 (q := (M_Mo_squareOf.1, 26)) (i := 14) rfl rfl⟩
theorem k_Mo_twice : ZOK M_Mo_twice := zok0 (zmem7 (i := 112) rfl rfl) (zmem1 (i := 9) rfl rfl) pl_Mo
theorem v_Mo_twice : ZVirt M_Mo_twice := ⟨zmem7 (i := 110) rfl rfl, zmem7 (i := 111) rfl rfl⟩
theorem k_Mo_pairRows : ZOK M_Mo_pairRows := zok0 (zmem7 (i := 116) rfl rfl) (zmem1 (i := 9) rfl rfl) pl_Mo
theorem v_Mo_pairRows : ZVirt M_Mo_pairRows := ⟨zmem7 (i := 115) rfl rfl, zsel11 (q := (M_Mo_pairRows.1, 26)) (i := 15) rfl rfl⟩
theorem k_Mo_laysWon : ZOK M_Mo_laysWon := zok0 (zmem7 (i := 121) rfl rfl) (zmem1 (i := 9) rfl rfl) pl_Mo
theorem v_Mo_laysWon : ZVirt M_Mo_laysWon := ⟨zmem7 (i := 120) rfl rfl, zsel12 (q := (M_Mo_laysWon.1, 26)) (i := 0) rfl rfl⟩
theorem k_Mo_wonPlace : ZOK M_Mo_wonPlace := zok0 (zmem7 (i := 124) rfl rfl) (zmem1 (i := 9) rfl rfl) pl_Mo
theorem s_Mo_wonPlace : ZStat M_Mo_wonPlace := zmem7 (i := 123) rfl rfl
theorem k_Mo_wonAt : ZOK M_Mo_wonAt := zok0 (zmem7 (i := 128) rfl rfl) (zmem1 (i := 9) rfl rfl) pl_Mo
theorem v_Mo_wonAt : ZVirt M_Mo_wonAt := ⟨zmem7 (i := 127) rfl rfl, zsel12 (q := (M_Mo_wonAt.1, 26)) (i := 1) rfl rfl⟩
theorem k_Mo_pairWorth : ZOK M_Mo_pairWorth := zok0 (zmem7 (i := 132) rfl rfl) (zmem1 (i := 9) rfl rfl) pl_Mo
theorem v_Mo_pairWorth : ZVirt M_Mo_pairWorth := ⟨zmem7 (i := 131) rfl rfl, zsel12 (q := (M_Mo_pairWorth.1, 26)) (i := 2) rfl rfl⟩
theorem k_Mo_product : ZOK M_Mo_product := zok0 (zmem7 (i := 136) rfl rfl) (zmem1 (i := 9) rfl rfl) pl_Mo
theorem v_Mo_product : ZVirt M_Mo_product := ⟨zmem7 (i := 134) rfl rfl, zmem7 (i := 135) rfl rfl⟩
theorem s_Math_abs : ZStat M_Math_abs := zmem7 (i := 138) rfl rfl
theorem k_Mo_boxed : ZOK M_Mo_boxed := zok0 (zmem7 (i := 143) rfl rfl) (zmem1 (i := 9) rfl rfl) pl_Mo
theorem v_Mo_boxed : ZVirt M_Mo_boxed := ⟨zmem7 (i := 141) rfl rfl, zmem7 (i := 142) rfl rfl⟩
theorem k_Mo_boxWorth : ZOK M_Mo_boxWorth := zok0 (zmem7 (i := 147) rfl rfl) (zmem1 (i := 9) rfl rfl) pl_Mo
theorem v_Mo_boxWorth : ZVirt M_Mo_boxWorth := ⟨zmem7 (i := 146) rfl rfl, zsel12 (q := (M_Mo_boxWorth.1, 26)) (i := 3) rfl rfl⟩
theorem k_Mo_isWhole : ZOK M_Mo_isWhole := zok0 (zmem7 (i := 151) rfl rfl) (zmem1 (i := 9) rfl rfl) pl_Mo
theorem v_Mo_isWhole : ZVirt M_Mo_isWhole := ⟨zmem7 (i := 150) rfl rfl, zsel12 (q := (M_Mo_isWhole.1, 26)) (i := 4) rfl rfl⟩
theorem k_Mo_givenAt : ZOK M_Mo_givenAt := zok0 (zmem7 (i := 155) rfl rfl) (zmem1 (i := 9) rfl rfl) pl_Mo
theorem v_Mo_givenAt : ZVirt M_Mo_givenAt := ⟨zmem7 (i := 154) rfl rfl, zsel12 (q := (M_Mo_givenAt.1, 26)) (i := 5) rfl rfl⟩
theorem k_Mo_signals : ZOK M_Mo_signals := zok0 (zmem7 (i := 159) rfl rfl) (zmem1 (i := 9) rfl rfl) pl_Mo
theorem v_Mo_signals : ZVirt M_Mo_signals := ⟨zmem7 (i := 158) rfl rfl, zsel12 (q := (M_Mo_signals.1, 26)) (i := 6) rfl rfl⟩
theorem k_Mo_marginal : ZOK M_Mo_marginal := zok0 (zmem7 (i := 163) rfl rfl) (zmem1 (i := 9) rfl rfl) pl_Mo
theorem v_Mo_marginal : ZVirt M_Mo_marginal := ⟨zmem7 (i := 161) rfl rfl, zmem7 (i := 162) rfl rfl⟩
theorem k_Mo_symmetries : ZOK M_Mo_symmetries := zok0 (zmem7 (i := 167) rfl rfl) (zmem1 (i := 9) rfl rfl) pl_Mo
theorem v_Mo_symmetries : ZVirt M_Mo_symmetries := ⟨zmem7 (i := 165) rfl rfl, zmem7 (i := 166) rfl rfl⟩
theorem k_Mo_ordersOfAnn : ZOK M_Mo_ordersOfAnn := zok0 (zmem7 (i := 171) rfl rfl) (zmem1 (i := 9) rfl rfl) pl_Mo
theorem v_Mo_ordersOfAnn : ZVirt M_Mo_ordersOfAnn := ⟨zmem7 (i := 170) rfl rfl, zsel12 (q := (M_Mo_ordersOfAnn.1, 26)) (i := 7) rfl rfl⟩
theorem k_Mo_ordersOfBen : ZOK M_Mo_ordersOfBen := zok0 (zmem7 (i := 175) rfl rfl) (zmem1 (i := 9) rfl rfl) pl_Mo
theorem v_Mo_ordersOfBen : ZVirt M_Mo_ordersOfBen := ⟨zmem7 (i := 174) rfl rfl, zsel12 (q := (M_Mo_ordersOfBen.1, 26)) (i := 8) rfl rfl⟩
theorem k_Mo_isAlike : ZOK M_Mo_isAlike := zok0 (zmem7 (i := 179) rfl rfl) (zmem1 (i := 9) rfl rfl) pl_Mo
theorem v_Mo_isAlike : ZVirt M_Mo_isAlike := ⟨zmem7 (i := 178) rfl rfl, zsel12 (q := (M_Mo_isAlike.1, 26)) (i := 9) rfl rfl⟩
theorem k_Mo_letter : ZOK M_Mo_letter := zok0 (zmem7 (i := 183) rfl rfl) (zmem1 (i := 9) rfl rfl) pl_Mo
theorem v_Mo_letter : ZVirt M_Mo_letter := ⟨zmem7 (i := 181) rfl rfl, zmem7 (i := 182) rfl rfl⟩
theorem k_Mo_writesAll : ZOK M_Mo_writesAll := zok0 (zmem7 (i := 187) rfl rfl) (zmem1 (i := 9) rfl rfl) pl_Mo
theorem v_Mo_writesAll : ZVirt M_Mo_writesAll := ⟨zmem7 (i := 186) rfl rfl, zsel12 (q := (M_Mo_writesAll.1, 26)) (i := 10) rfl rfl⟩
theorem k_Mo_writesWord : ZOK M_Mo_writesWord := zok0 (zmem7 (i := 191) rfl rfl) (zmem1 (i := 9) rfl rfl) pl_Mo
theorem v_Mo_writesWord : ZVirt M_Mo_writesWord := ⟨zmem7 (i := 190) rfl rfl, zsel12 (q := (M_Mo_writesWord.1, 26)) (i := 11) rfl rfl⟩
theorem k_Mo_writes : ZOK M_Mo_writes := zok0 (zmem7 (i := 195) rfl rfl) (zmem1 (i := 9) rfl rfl) pl_Mo
theorem v_Mo_writes : ZVirt M_Mo_writes := ⟨zmem7 (i := 194) rfl rfl, zsel12 (q := (M_Mo_writes.1, 26)) (i := 12) rfl rfl⟩
theorem k_Mo_writesNumber : ZOK M_Mo_writesNumber := zok0 (zmem7 (i := 199) rfl rfl) (zmem1 (i := 9) rfl rfl) pl_Mo
theorem v_Mo_writesNumber : ZVirt M_Mo_writesNumber := ⟨zmem7 (i := 198) rfl rfl, zsel12 (q := (M_Mo_writesNumber.1, 26)) (i := 13) rfl rfl⟩
theorem k_Mo_writesFours : ZOK M_Mo_writesFours := zok0 (zmem7 (i := 204) rfl rfl) (zmem1 (i := 9) rfl rfl) pl_Mo
theorem v_Mo_writesFours : ZVirt M_Mo_writesFours := ⟨zmem7 (i := 203) rfl rfl, zsel12 (q := (M_Mo_writesFours.1, 26)) (i := 14) rfl rfl⟩
theorem k_Mo_count : ZOK M_Mo_count := zok0 (zmem7 (i := 210) rfl rfl) (zmem1 (i := 9) rfl rfl) pl_Mo
theorem v_Mo_count : ZVirt M_Mo_count := ⟨zmem7 (i := 208) rfl rfl, zmem7 (i := 209) rfl rfl⟩
def zpar (M : ZMeth) : Option Nat := (parseMethodDescriptor M.1.desc).map (fun d => d.parameters.length)
theorem a_Ap_init : zpar M_Ap_init = some 0 := by decide +kernel
theorem a_Obj_init : zpar M_Obj_init = some 0 := by decide +kernel
theorem a_Tape_init : zpar M_Tape_init = some 0 := by decide +kernel
theorem a_Past_init : zpar M_Past_init = some 0 := by decide +kernel
theorem a_Game_init : zpar M_Game_init = some 0 := by decide +kernel
theorem a_Table_init : zpar M_Table_init = some 0 := by decide +kernel
theorem a_Duo_init : zpar M_Duo_init = some 0 := by decide +kernel
theorem a_Shape_init : zpar M_Shape_init = some 0 := by decide +kernel
theorem a_Scribe_init : zpar M_Scribe_init = some 0 := by decide +kernel
theorem a_Ap_feed : zpar M_Ap_feed = some 5 := by decide +kernel
theorem a_Tape_hasRoomForFive : zpar M_Tape_hasRoomForFive = some 0 := by decide +kernel
theorem a_Tape_addNumber : zpar M_Tape_addNumber = some 1 := by decide +kernel
theorem a_Ap_end : zpar M_Ap_end = some 1 := by decide +kernel
theorem a_Ap_tell : zpar M_Ap_tell = some 0 := by decide +kernel
theorem a_Tape_readInto : zpar M_Tape_readInto = some 1 := by decide +kernel
theorem a_Tape_readHead : zpar M_Tape_readHead = some 1 := by decide +kernel
theorem a_Tape_skipBlanks : zpar M_Tape_skipBlanks = some 0 := by decide +kernel
theorem a_Tape_behindWord : zpar M_Tape_behindWord = some 0 := by decide +kernel
theorem a_Tape_isWord : zpar M_Tape_isWord = some 2 := by decide +kernel
theorem a_Str_length : zpar M_Str_length = some 0 := by decide +kernel
theorem a_Str_coder : zpar M_Str_coder = some 0 := by decide +kernel
theorem a_Str_charAt : zpar M_Str_charAt = some 1 := by decide +kernel
theorem a_Str_isLatin1 : zpar M_Str_isLatin1 = some 0 := by decide +kernel
theorem a_Lat_charAt : zpar M_Lat_charAt = some 2 := by decide +kernel
theorem a_Str_checkIndex : zpar M_Str_checkIndex = some 2 := by decide +kernel
theorem a_Pre_checkIndex : zpar M_Pre_checkIndex = some 3 := by decide +kernel
theorem a_U16_charAt : zpar M_U16_charAt = some 2 := by decide +kernel
theorem a_U16_checkIndex : zpar M_U16_checkIndex = some 2 := by decide +kernel
theorem a_U16_length : zpar M_U16_length = some 1 := by decide +kernel
theorem a_U16_getChar : zpar M_U16_getChar = some 2 := by decide +kernel
theorem a_Tape_blame : zpar M_Tape_blame = some 2 := by decide +kernel
theorem a_Tape_readNumber : zpar M_Tape_readNumber = some 2 := by decide +kernel
theorem a_Math_min : zpar M_Math_min = some 2 := by decide +kernel
theorem a_Game_start : zpar M_Game_start = some 4 := by decide +kernel
theorem a_Tape_readPart : zpar M_Tape_readPart = some 1 := by decide +kernel
theorem a_Tape_kindOfWord : zpar M_Tape_kindOfWord = some 1 := by decide +kernel
theorem a_Tape_readWeight : zpar M_Tape_readWeight = some 3 := by decide +kernel
theorem a_Ap_cellOf : zpar M_Ap_cellOf = some 3 := by decide +kernel
theorem a_Tape_readSpot : zpar M_Tape_readSpot = some 4 := by decide +kernel
theorem a_Ap_spotOf : zpar M_Ap_spotOf = some 5 := by decide +kernel
theorem a_Tape_winWhere : zpar M_Tape_winWhere = some 4 := by decide +kernel
theorem a_Tape_suits : zpar M_Tape_suits = some 3 := by decide +kernel
theorem a_Ap_takeSpare : zpar M_Ap_takeSpare = some 0 := by decide +kernel
theorem a_Past_forget : zpar M_Past_forget = some 0 := by decide +kernel
theorem a_Ap_weigh : zpar M_Ap_weigh = some 3 := by decide +kernel
theorem a_Game_hasCell : zpar M_Game_hasCell = some 2 := by decide +kernel
theorem a_Game_hasQuestion : zpar M_Game_hasQuestion = some 2 := by decide +kernel
theorem a_Ap_isPlayer : zpar M_Ap_isPlayer = some 1 := by decide +kernel
theorem a_Game_questionsOf : zpar M_Game_questionsOf = some 1 := by decide +kernel
theorem a_Past_remember : zpar M_Past_remember = some 1 := by decide +kernel
theorem a_Game_become : zpar M_Game_become = some 1 := by decide +kernel
theorem a_Ap_decide : zpar M_Ap_decide = some 4 := by decide +kernel
theorem a_Game_hasSpot : zpar M_Game_hasSpot = some 4 := by decide +kernel
theorem a_Game_hasAnswer : zpar M_Game_hasAnswer = some 2 := by decide +kernel
theorem a_Game_answersOf : zpar M_Game_answersOf = some 1 := by decide +kernel
theorem a_Ap_parity : zpar M_Ap_parity = some 3 := by decide +kernel
theorem a_Game_signAt : zpar M_Game_signAt = some 2 := by decide +kernel
theorem a_Game_winByParity : zpar M_Game_winByParity = some 3 := by decide +kernel
theorem a_Ap_exchange : zpar M_Ap_exchange = some 4 := by decide +kernel
theorem a_Game_hasTwoAnswers : zpar M_Game_hasTwoAnswers = some 4 := by decide +kernel
theorem a_Game_exchangeAnswers : zpar M_Game_exchangeAnswers = some 4 := by decide +kernel
theorem a_Game_exchangeEntries : zpar M_Game_exchangeEntries = some 3 := by decide +kernel
theorem a_Ap_swap : zpar M_Ap_swap = some 0 := by decide +kernel
theorem a_Game_isTold : zpar M_Game_isTold = some 0 := by decide +kernel
theorem a_Game_becomeFlipped : zpar M_Game_becomeFlipped = some 1 := by decide +kernel
theorem a_Game_flipAnswers : zpar M_Game_flipAnswers = some 3 := by decide +kernel
theorem a_Ap_drop : zpar M_Ap_drop = some 2 := by decide +kernel
theorem a_Game_dropQuestion : zpar M_Game_dropQuestion = some 2 := by decide +kernel
theorem a_Game_copyOver : zpar M_Game_copyOver = some 3 := by decide +kernel
theorem a_Game_setQuestions : zpar M_Game_setQuestions = some 2 := by decide +kernel
theorem a_Ap_copy : zpar M_Ap_copy = some 2 := by decide +kernel
theorem a_Game_addQuestionLike : zpar M_Game_addQuestionLike = some 2 := by decide +kernel
theorem a_Ap_box : zpar M_Ap_box = some 5 := by decide +kernel
theorem a_Ap_mix : zpar M_Ap_mix = some 3 := by decide +kernel
theorem a_Duo_takeBoth : zpar M_Duo_takeBoth = some 3 := by decide +kernel
theorem a_Duo_take : zpar M_Duo_take = some 3 := by decide +kernel
theorem a_Duo_answersBy : zpar M_Duo_answersBy = some 1 := by decide +kernel
theorem a_Duo_greatestBox : zpar M_Duo_greatestBox = some 1 := by decide +kernel
theorem a_Math_max : zpar M_Math_max = some 2 := by decide +kernel
theorem a_Duo_addToBoxes : zpar M_Duo_addToBoxes = some 2 := by decide +kernel
theorem a_Ap_draw : zpar M_Ap_draw = some 1 := by decide +kernel
theorem a_Game_drawAll : zpar M_Game_drawAll = some 1 := by decide +kernel
theorem a_Game_nextState : zpar M_Game_nextState = some 1 := by decide +kernel
theorem a_Game_winningSpots : zpar M_Game_winningSpots = some 0 := by decide +kernel
theorem a_Game_winningAt : zpar M_Game_winningAt = some 2 := by decide +kernel
theorem a_Ap_undo : zpar M_Ap_undo = some 0 := by decide +kernel
theorem a_Past_restore : zpar M_Past_restore = some 1 := by decide +kernel
theorem a_Ap_keep : zpar M_Ap_keep = some 1 := by decide +kernel
theorem a_Ap_back : zpar M_Ap_back = some 1 := by decide +kernel
theorem a_Ap_wins : zpar M_Ap_wins = some 4 := by decide +kernel
theorem a_Ap_weight : zpar M_Ap_weight = some 2 := by decide +kernel
theorem a_Ap_worth : zpar M_Ap_worth = some 1 := by decide +kernel
theorem a_Ap_mostOf : zpar M_Ap_mostOf = some 1 := by decide +kernel
theorem a_Table_loadSome : zpar M_Table_loadSome = some 3 := by decide +kernel
theorem a_Table_setSizes : zpar M_Table_setSizes = some 4 := by decide +kernel
theorem a_Table_loadQuestion : zpar M_Table_loadQuestion = some 3 := by decide +kernel
theorem a_Game_gain : zpar M_Game_gain = some 5 := by decide +kernel
theorem a_Table_mostAbove : zpar M_Table_mostAbove = some 1 := by decide +kernel
theorem a_Table_clearFirstSums : zpar M_Table_clearFirstSums = some 0 := by decide +kernel
theorem a_Table_fillHopes : zpar M_Table_fillHopes = some 0 := by decide +kernel
theorem a_Table_greatestGain : zpar M_Table_greatestGain = some 2 := by decide +kernel
theorem a_Table_markNeedless : zpar M_Table_markNeedless = some 0 := by decide +kernel
theorem a_Table_isCovered : zpar M_Table_isCovered = some 2 := by decide +kernel
theorem a_Table_covers : zpar M_Table_covers = some 2 := by decide +kernel
theorem a_Table_hopeAt : zpar M_Table_hopeAt = some 1 := by decide +kernel
theorem a_Table_search : zpar M_Table_search = some 2 := by decide +kernel
theorem a_Table_addLine : zpar M_Table_addLine = some 2 := by decide +kernel
theorem a_Game_weightTogether : zpar M_Game_weightTogether = some 0 := by decide +kernel
theorem a_Table_leastLow : zpar M_Table_leastLow = some 0 := by decide +kernel
theorem a_Table_rows : zpar M_Table_rows = some 0 := by decide +kernel
theorem a_Table_begin : zpar M_Table_begin = some 0 := by decide +kernel
theorem a_Table_sumFrom : zpar M_Table_sumFrom = some 1 := by decide +kernel
theorem a_Table_low : zpar M_Table_low = some 0 := by decide +kernel
theorem a_Table_lowAt : zpar M_Table_lowAt = some 1 := by decide +kernel
theorem a_Table_step : zpar M_Table_step = some 0 := by decide +kernel
theorem a_Table_mostLow : zpar M_Table_mostLow = some 0 := by decide +kernel
theorem a_Ap_sure : zpar M_Ap_sure = some 1 := by decide +kernel
theorem a_Table_firstRowOfLow : zpar M_Table_firstRowOfLow = some 1 := by decide +kernel
theorem a_Duo_numberOf : zpar M_Duo_numberOf = some 2 := by decide +kernel
theorem a_Ap_play : zpar M_Ap_play = some 2 := by decide +kernel
theorem a_Duo_worthBoth : zpar M_Duo_worthBoth = some 1 := by decide +kernel
theorem a_Duo_worthAt : zpar M_Duo_worthAt = some 4 := by decide +kernel
theorem a_Ap_hangs : zpar M_Ap_hangs = some 2 := by decide +kernel
theorem a_Duo_spanAt : zpar M_Duo_spanAt = some 2 := by decide +kernel
theorem a_Ap_reply : zpar M_Ap_reply = some 2 := by decide +kernel
theorem a_Duo_answerBest : zpar M_Duo_answerBest = some 2 := by decide +kernel
theorem a_Duo_bestReply : zpar M_Duo_bestReply = some 2 := by decide +kernel
theorem a_Ap_bests : zpar M_Ap_bests = some 0 := by decide +kernel
theorem a_Table_countTops : zpar M_Table_countTops = some 1 := by decide +kernel
theorem a_Table_high : zpar M_Table_high = some 0 := by decide +kernel
theorem a_Table_highAt : zpar M_Table_highAt = some 1 := by decide +kernel
theorem a_Table_topRowsFrom : zpar M_Table_topRowsFrom = some 1 := by decide +kernel
theorem a_Table_topReplies : zpar M_Table_topReplies = some 1 := by decide +kernel
theorem a_Ap_best : zpar M_Ap_best = some 2 := by decide +kernel
theorem a_Table_rowOfTop : zpar M_Table_rowOfTop = some 3 := by decide +kernel
theorem a_Table_findTopReplies : zpar M_Table_findTopReplies = some 1 := by decide +kernel
theorem a_Table_topReplyAt : zpar M_Table_topReplyAt = some 2 := by decide +kernel
theorem a_Table_isTopReply : zpar M_Table_isTopReply = some 2 := by decide +kernel
theorem a_Ap_lost : zpar M_Ap_lost = some 2 := by decide +kernel
theorem a_Table_countTopsLosing : zpar M_Table_countTopsLosing = some 4 := by decide +kernel
theorem a_Table_topRowsLosing : zpar M_Table_topRowsLosing = some 3 := by decide +kernel
theorem a_Table_topRepliesLosing : zpar M_Table_topRepliesLosing = some 3 := by decide +kernel
theorem a_Ap_mean : zpar M_Ap_mean = some 1 := by decide +kernel
theorem a_Game_weightOfWinningSpots : zpar M_Game_weightOfWinningSpots = some 0 := by decide +kernel
theorem a_Ap_commonDivisor : zpar M_Ap_commonDivisor = some 2 := by decide +kernel
theorem a_Ap_talk : zpar M_Ap_talk = some 1 := by decide +kernel
theorem a_Ap_mostAsked : zpar M_Ap_mostAsked = some 1 := by decide +kernel
theorem a_Ap_without : zpar M_Ap_without = some 2 := by decide +kernel
theorem a_Ap_lesser : zpar M_Ap_lesser = some 4 := by decide +kernel
theorem a_Game_isLesser : zpar M_Game_isLesser = some 4 := by decide +kernel
theorem a_Ap_same : zpar M_Ap_same = some 3 := by decide +kernel
theorem a_Game_areSame : zpar M_Game_areSame = some 3 := by decide +kernel
theorem a_Game_areSameSpots : zpar M_Game_areSameSpots = some 4 := by decide +kernel
theorem a_Ap_climb : zpar M_Ap_climb = some 3 := by decide +kernel
theorem a_Duo_climbUp : zpar M_Duo_climbUp = some 1 := by decide +kernel
theorem a_Duo_rowOf : zpar M_Duo_rowOf = some 2 := by decide +kernel
theorem a_Ap_cut : zpar M_Ap_cut = some 2 := by decide +kernel
theorem a_Ap_parts : zpar M_Ap_parts = some 1 := by decide +kernel
theorem a_Shape_partsOf : zpar M_Shape_partsOf = some 1 := by decide +kernel
theorem a_Shape_markParts : zpar M_Shape_markParts = some 1 := by decide +kernel
theorem a_Shape_joinParts : zpar M_Shape_joinParts = some 2 := by decide +kernel
theorem a_Shape_greatestPartOf : zpar M_Shape_greatestPartOf = some 1 := by decide +kernel
theorem a_Ap_sign : zpar M_Ap_sign = some 2 := by decide +kernel
theorem a_Ap_bias : zpar M_Ap_bias = some 1 := by decide +kernel
theorem a_Game_isParityGame : zpar M_Game_isParityGame = some 0 := by decide +kernel
theorem a_Ap_mostBias : zpar M_Ap_mostBias = some 0 := by decide +kernel
theorem a_Game_squares : zpar M_Game_squares = some 1 := by decide +kernel
theorem a_Game_squaresOfTwo : zpar M_Game_squaresOfTwo = some 3 := by decide +kernel
theorem a_Game_signedWeight : zpar M_Game_signedWeight = some 2 := by decide +kernel
theorem a_Ap_twice : zpar M_Ap_twice = some 1 := by decide +kernel
theorem a_Ap_rowsTwice : zpar M_Ap_rowsTwice = some 0 := by decide +kernel
theorem a_Table_loadTwice : zpar M_Table_loadTwice = some 2 := by decide +kernel
theorem a_Table_loadTwiceLine : zpar M_Table_loadTwiceLine = some 7 := by decide +kernel
theorem a_Ap_product : zpar M_Ap_product = some 0 := by decide +kernel
theorem a_Table_loadWithItself : zpar M_Table_loadWithItself = some 1 := by decide +kernel
theorem a_Table_loadWithItselfLines : zpar M_Table_loadWithItselfLines = some 4 := by decide +kernel
theorem a_Ap_boxed : zpar M_Ap_boxed = some 1 := by decide +kernel
theorem a_Game_boxWorth : zpar M_Game_boxWorth = some 0 := by decide +kernel
theorem a_Game_isWhole : zpar M_Game_isWhole = some 0 := by decide +kernel
theorem a_Game_howOften : zpar M_Game_howOften = some 4 := by decide +kernel
theorem a_Game_signalsTo : zpar M_Game_signalsTo = some 1 := by decide +kernel
theorem a_Ap_marginal : zpar M_Ap_marginal = some 4 := by decide +kernel
theorem a_Ap_symmetries : zpar M_Ap_symmetries = some 0 := by decide +kernel
theorem a_Shape_ordersOf : zpar M_Shape_ordersOf = some 1 := by decide +kernel
theorem a_Shape_noteLooks : zpar M_Shape_noteLooks = some 1 := by decide +kernel
theorem a_Shape_setOrder : zpar M_Shape_setOrder = some 2 := by decide +kernel
theorem a_Shape_freePlace : zpar M_Shape_freePlace = some 3 := by decide +kernel
theorem a_Shape_ordersOfBen : zpar M_Shape_ordersOfBen = some 1 := by decide +kernel
theorem a_Shape_looksLike : zpar M_Shape_looksLike = some 3 := by decide +kernel
theorem a_Ap_letter : zpar M_Ap_letter = some 1 := by decide +kernel
theorem a_Scribe_write : zpar M_Scribe_write = some 2 := by decide +kernel
theorem a_Scribe_writeWord : zpar M_Scribe_writeWord = some 1 := by decide +kernel
theorem a_Scribe_put : zpar M_Scribe_put = some 1 := by decide +kernel
theorem a_Scribe_writeNumber : zpar M_Scribe_writeNumber = some 1 := by decide +kernel
theorem a_Scribe_writeWeights : zpar M_Scribe_writeWeights = some 1 := by decide +kernel
theorem a_Scribe_writeSpots : zpar M_Scribe_writeSpots = some 4 := by decide +kernel
theorem a_Scribe_writeSpot : zpar M_Scribe_writeSpot = some 4 := by decide +kernel
theorem a_Scribe_writeEntry : zpar M_Scribe_writeEntry = some 2 := by decide +kernel
theorem a_Ap_count : zpar M_Ap_count = some 1 := by decide +kernel
theorem a_Mo_init : zpar M_Mo_init = some 0 := by decide +kernel
theorem a_Mo_feed : zpar M_Mo_feed = some 5 := by decide +kernel
theorem a_Mo_puts : zpar M_Mo_puts = some 1 := by decide +kernel
theorem a_Mo_end : zpar M_Mo_end = some 1 := by decide +kernel
theorem a_Mo_tell : zpar M_Mo_tell = some 0 := by decide +kernel
theorem a_Mo_takes : zpar M_Mo_takes = some 1 := by decide +kernel
theorem a_Mo_next : zpar M_Mo_next = some 0 := by decide +kernel
theorem a_Mo_sign_0 : zpar M_Mo_sign_0 = some 0 := by decide +kernel
theorem a_Mo_in : zpar M_Mo_in = some 3 := by decide +kernel
theorem a_Mo_fails : zpar M_Mo_fails = some 2 := by decide +kernel
theorem a_Mo_isRight : zpar M_Mo_isRight = some 0 := by decide +kernel
theorem a_Mo_number : zpar M_Mo_number = some 2 := by decide +kernel
theorem a_Mo_twoOf : zpar M_Mo_twoOf = some 2 := by decide +kernel
theorem a_Mo_readsPart : zpar M_Mo_readsPart = some 0 := by decide +kernel
theorem a_Mo_readsWins : zpar M_Mo_readsWins = some 6 := by decide +kernel
theorem a_Mo_fourOf : zpar M_Mo_fourOf = some 4 := by decide +kernel
theorem a_Mo_moves : zpar M_Mo_moves = some 4 := by decide +kernel
theorem a_Mo_undo : zpar M_Mo_undo = some 0 := by decide +kernel
theorem a_Mo_keep : zpar M_Mo_keep = some 1 := by decide +kernel
theorem a_Mo_back : zpar M_Mo_back = some 1 := by decide +kernel
theorem a_Mo_weigh : zpar M_Mo_weigh = some 3 := by decide +kernel
theorem a_Mo_areTwo : zpar M_Mo_areTwo = some 2 := by decide +kernel
theorem a_Mo_isQuestion : zpar M_Mo_isQuestion = some 2 := by decide +kernel
theorem a_Mo_questions : zpar M_Mo_questions = some 1 := by decide +kernel
theorem a_Mo_becomes : zpar M_Mo_becomes = some 2 := by decide +kernel
theorem a_Mo_keepsPast : zpar M_Mo_keepsPast = some 0 := by decide +kernel
theorem a_Mo_box : zpar M_Mo_box = some 5 := by decide +kernel
theorem a_Mo_areFour : zpar M_Mo_areFour = some 4 := by decide +kernel
theorem a_Mo_isAnswer : zpar M_Mo_isAnswer = some 2 := by decide +kernel
theorem a_Mo_answers : zpar M_Mo_answers = some 1 := by decide +kernel
theorem a_Mo_decide : zpar M_Mo_decide = some 4 := by decide +kernel
theorem a_Mo_parity : zpar M_Mo_parity = some 3 := by decide +kernel
theorem a_Mo_isParity : zpar M_Mo_isParity = some 3 := by decide +kernel
theorem a_Mo_isWin : zpar M_Mo_isWin = some 4 := by decide +kernel
theorem a_Mo_truth : zpar M_Mo_truth = some 1 := by decide +kernel
theorem a_Mo_exchange : zpar M_Mo_exchange = some 4 := by decide +kernel
theorem a_Mo_isPlayer : zpar M_Mo_isPlayer = some 1 := by decide +kernel
theorem a_Mo_exchanges : zpar M_Mo_exchanges = some 2 := by decide +kernel
theorem a_Mo_swap : zpar M_Mo_swap = some 0 := by decide +kernel
theorem a_Mo_hasGame : zpar M_Mo_hasGame = some 0 := by decide +kernel
theorem a_Mo_drop : zpar M_Mo_drop = some 2 := by decide +kernel
theorem a_Mo_copies : zpar M_Mo_copies = some 3 := by decide +kernel
theorem a_Mo_copy : zpar M_Mo_copy = some 2 := by decide +kernel
theorem a_Mo_mix : zpar M_Mo_mix = some 3 := by decide +kernel
theorem a_Mo_lays : zpar M_Mo_lays = some 2 := by decide +kernel
theorem a_Mo_rowOf : zpar M_Mo_rowOf = some 1 := by decide +kernel
theorem a_Math_floorMod : zpar M_Math_floorMod = some 2 := by decide +kernel
theorem a_Mo_boxOf : zpar M_Mo_boxOf = some 4 := by decide +kernel
theorem a_Mo_draw : zpar M_Mo_draw = some 1 := by decide +kernel
theorem a_Mo_draws : zpar M_Mo_draws = some 1 := by decide +kernel
theorem a_Mo_winsMany : zpar M_Mo_winsMany = some 0 := by decide +kernel
theorem a_Mo_wins : zpar M_Mo_wins = some 4 := by decide +kernel
theorem a_Mo_weight : zpar M_Mo_weight = some 2 := by decide +kernel
theorem a_Mo_weightOf : zpar M_Mo_weightOf = some 2 := by decide +kernel
theorem a_Mo_worth : zpar M_Mo_worth = some 1 := by decide +kernel
theorem a_Mo_mostWorth : zpar M_Mo_mostWorth = some 0 := by decide +kernel
theorem a_Mo_laysFirst : zpar M_Mo_laysFirst = some 1 := by decide +kernel
theorem a_Mo_reached : zpar M_Mo_reached = some 2 := by decide +kernel
theorem a_Mo_laysBy : zpar M_Mo_laysBy = some 2 := by decide +kernel
theorem a_Mo_seen : zpar M_Mo_seen = some 6 := by decide +kernel
theorem a_Mo_weightSeen : zpar M_Mo_weightSeen = some 3 := by decide +kernel
theorem a_Mo_bestBy : zpar M_Mo_bestBy = some 1 := by decide +kernel
theorem a_Mo_worstBy : zpar M_Mo_worstBy = some 1 := by decide +kernel
theorem a_Mo_goesOn : zpar M_Mo_goesOn = some 1 := by decide +kernel
theorem a_Mo_allWeights : zpar M_Mo_allWeights = some 0 := by decide +kernel
theorem a_Mo_leastWorth : zpar M_Mo_leastWorth = some 0 := by decide +kernel
theorem a_Mo_sureOf : zpar M_Mo_sureOf = some 1 := by decide +kernel
theorem a_Mo_toldOf : zpar M_Mo_toldOf = some 1 := by decide +kernel
theorem a_Mo_sure : zpar M_Mo_sure = some 1 := by decide +kernel
theorem a_Mo_play : zpar M_Mo_play = some 2 := by decide +kernel
theorem a_Mo_worthNow : zpar M_Mo_worthNow = some 0 := by decide +kernel
theorem a_Mo_hangs : zpar M_Mo_hangs = some 2 := by decide +kernel
theorem a_Mo_reply : zpar M_Mo_reply = some 2 := by decide +kernel
theorem a_Mo_replies : zpar M_Mo_replies = some 1 := by decide +kernel
theorem a_Mo_bests : zpar M_Mo_bests = some 0 := by decide +kernel
theorem a_Mo_allWays : zpar M_Mo_allWays = some 2 := by decide +kernel
theorem a_Mo_ways : zpar M_Mo_ways = some 2 := by decide +kernel
theorem a_Mo_lost : zpar M_Mo_lost = some 2 := by decide +kernel
theorem a_Mo_best : zpar M_Mo_best = some 2 := by decide +kernel
theorem a_Mo_laysBest : zpar M_Mo_laysBest = some 1 := by decide +kernel
theorem a_Mo_mean : zpar M_Mo_mean = some 1 := by decide +kernel
theorem a_Mo_common : zpar M_Mo_common = some 2 := by decide +kernel
theorem a_Mo_talk : zpar M_Mo_talk = some 1 := by decide +kernel
theorem a_Mo_toldWorth : zpar M_Mo_toldWorth = some 1 := by decide +kernel
theorem a_Mo_without : zpar M_Mo_without = some 2 := by decide +kernel
theorem a_Mo_mostWithout : zpar M_Mo_mostWithout = some 2 := by decide +kernel
theorem a_Mo_cut : zpar M_Mo_cut = some 2 := by decide +kernel
theorem a_Mo_lesser : zpar M_Mo_lesser = some 4 := by decide +kernel
theorem a_Mo_same : zpar M_Mo_same = some 3 := by decide +kernel
theorem a_Mo_climb : zpar M_Mo_climb = some 3 := by decide +kernel
theorem a_Mo_parts : zpar M_Mo_parts = some 1 := by decide +kernel
theorem a_Mo_laysParts : zpar M_Mo_laysParts = some 0 := by decide +kernel
theorem a_Mo_sign_2 : zpar M_Mo_sign_2 = some 2 := by decide +kernel
theorem a_Mo_signOf : zpar M_Mo_signOf = some 2 := by decide +kernel
theorem a_Mo_bias : zpar M_Mo_bias = some 1 := by decide +kernel
theorem a_Mo_isParityGame : zpar M_Mo_isParityGame = some 0 := by decide +kernel
theorem a_Mo_squareOf : zpar M_Mo_squareOf = some 4 := by decide +kernel
theorem a_Mo_twice : zpar M_Mo_twice = some 1 := by decide +kernel
theorem a_Mo_pairRows : zpar M_Mo_pairRows = some 0 := by decide +kernel
theorem a_Mo_laysWon : zpar M_Mo_laysWon = some 1 := by decide +kernel
theorem a_Mo_wonPlace : zpar M_Mo_wonPlace = some 4 := by decide +kernel
theorem a_Mo_wonAt : zpar M_Mo_wonAt = some 5 := by decide +kernel
theorem a_Mo_pairWorth : zpar M_Mo_pairWorth = some 0 := by decide +kernel
theorem a_Mo_product : zpar M_Mo_product = some 0 := by decide +kernel
theorem a_Math_abs : zpar M_Math_abs = some 1 := by decide +kernel
theorem a_Mo_boxed : zpar M_Mo_boxed = some 1 := by decide +kernel
theorem a_Mo_boxWorth : zpar M_Mo_boxWorth = some 0 := by decide +kernel
theorem a_Mo_isWhole : zpar M_Mo_isWhole = some 0 := by decide +kernel
theorem a_Mo_givenAt : zpar M_Mo_givenAt = some 4 := by decide +kernel
theorem a_Mo_signals : zpar M_Mo_signals = some 1 := by decide +kernel
theorem a_Mo_marginal : zpar M_Mo_marginal = some 4 := by decide +kernel
theorem a_Mo_symmetries : zpar M_Mo_symmetries = some 0 := by decide +kernel
theorem a_Mo_ordersOfAnn : zpar M_Mo_ordersOfAnn = some 2 := by decide +kernel
theorem a_Mo_ordersOfBen : zpar M_Mo_ordersOfBen = some 2 := by decide +kernel
theorem a_Mo_isAlike : zpar M_Mo_isAlike = some 4 := by decide +kernel
theorem a_Mo_letter : zpar M_Mo_letter = some 1 := by decide +kernel
theorem a_Mo_writesAll : zpar M_Mo_writesAll = some 0 := by decide +kernel
theorem a_Mo_writesWord : zpar M_Mo_writesWord = some 1 := by decide +kernel
theorem a_Mo_writes : zpar M_Mo_writes = some 1 := by decide +kernel
theorem a_Mo_writesNumber : zpar M_Mo_writesNumber = some 1 := by decide +kernel
theorem a_Mo_writesFours : zpar M_Mo_writesFours = some 1 := by decide +kernel
theorem a_Mo_count : zpar M_Mo_count = some 1 := by decide +kernel
theorem l_Law_9 : ZLk "ApartGamesLaw" 9 M_Ap_init := Or.inl (zmem1 (i := 18) rfl rfl)
theorem l_Ap_1 : ZLk "ApartGames" 1 M_Obj_init := Or.inl (zmem1 (i := 21) rfl rfl)
theorem l_Ap_9 : ZLk "ApartGames" 9 M_Tape_init := Or.inr ⟨"ApartGames", List.mem_of_getElem? (i := 0) rfl⟩
theorem l_Tape_3 : ZLk "ApartGames$Tape" 3 M_Obj_init := Or.inl (zmem1 (i := 29) rfl rfl)
theorem l_Ap_18 : ZLk "ApartGames" 18 M_Past_init := Or.inr ⟨"ApartGames", List.mem_of_getElem? (i := 1) rfl⟩
theorem l_Past_1 : ZLk "ApartGames$Past" 1 M_Obj_init := Or.inl (zmem1 (i := 50) rfl rfl)
theorem l_Past_9 : ZLk "ApartGames$Past" 9 M_Game_init := Or.inr ⟨"ApartGames", List.mem_of_getElem? (i := 2) rfl⟩
theorem l_Game_5 : ZLk "ApartGames$Game" 5 M_Obj_init := Or.inl (zmem1 (i := 57) rfl rfl)
theorem l_Ap_25 : ZLk "ApartGames" 25 M_Table_init := Or.inr ⟨"ApartGames", List.mem_of_getElem? (i := 3) rfl⟩
theorem l_Table_3 : ZLk "ApartGames$Table" 3 M_Obj_init := Or.inl (zmem1 (i := 133) rfl rfl)
theorem l_Ap_32 : ZLk "ApartGames" 32 M_Duo_init := Or.inr ⟨"ApartGames", List.mem_of_getElem? (i := 4) rfl⟩
theorem l_Duo_3 : ZLk "ApartGames$Duo" 3 M_Obj_init := Or.inl (zmem1 (i := 177) rfl rfl)
theorem l_Ap_39 : ZLk "ApartGames" 39 M_Shape_init := Or.inr ⟨"ApartGames", List.mem_of_getElem? (i := 5) rfl⟩
theorem l_Shape_3 : ZLk "ApartGames$Shape" 3 M_Obj_init := Or.inl (zmem1 (i := 193) rfl rfl)
theorem l_Ap_46 : ZLk "ApartGames" 46 M_Scribe_init := Or.inr ⟨"ApartGames", List.mem_of_getElem? (i := 6) rfl⟩
theorem l_Scribe_3 : ZLk "ApartGames$Scribe" 3 M_Obj_init := Or.inl (zmem1 (i := 209) rfl rfl)
theorem l_Ap_53 : ZLk "ApartGames" 53 M_Game_init := Or.inr ⟨"ApartGames", List.mem_of_getElem? (i := 7) rfl⟩
theorem l_Law_13 : ZLk "ApartGamesLaw" 13 M_Ap_feed := Or.inl (zmem2 (i := 14) rfl rfl)
theorem l_Ap_69 : ZLk "ApartGames" 69 M_Tape_hasRoomForFive := Or.inr ⟨"ApartGames", List.mem_of_getElem? (i := 8) rfl⟩
theorem l_Ap_73 : ZLk "ApartGames" 73 M_Tape_addNumber := Or.inr ⟨"ApartGames", List.mem_of_getElem? (i := 9) rfl⟩
theorem l_Law_18 : ZLk "ApartGamesLaw" 18 M_Ap_end := Or.inl (zmem2 (i := 26) rfl rfl)
theorem l_Law_23 : ZLk "ApartGamesLaw" 23 M_Ap_tell := Or.inl (zmem2 (i := 30) rfl rfl)
theorem l_Ap_80 : ZLk "ApartGames" 80 M_Tape_readInto := Or.inr ⟨"ApartGames", List.mem_of_getElem? (i := 10) rfl⟩
theorem l_Tape_25 : ZLk "ApartGames$Tape" 25 M_Tape_readHead := Or.inl (zmem2 (i := 38) rfl rfl)
theorem l_Tape_29 : ZLk "ApartGames$Tape" 29 M_Tape_skipBlanks := Or.inl (zmem2 (i := 42) rfl rfl)
theorem l_Tape_35 : ZLk "ApartGames$Tape" 35 M_Tape_behindWord := Or.inl (zmem2 (i := 46) rfl rfl)
theorem l_Tape_41 : ZLk "ApartGames$Tape" 41 M_Tape_isWord := Or.inl (zmem2 (i := 51) rfl rfl)
theorem l_Tape_121 : ZLk "ApartGames$Tape" 121 M_Str_length := Or.inl (zmem2 (i := 55) rfl rfl)
theorem l_Str_335 : ZLk "java/lang/String" 335 M_Str_coder := Or.inl (zmem2 (i := 59) rfl rfl)
theorem l_Tape_125 : ZLk "ApartGames$Tape" 125 M_Str_charAt := Or.inl (zmem2 (i := 65) rfl rfl)
theorem l_Str_492 : ZLk "java/lang/String" 492 M_Str_isLatin1 := Or.inl (zmem2 (i := 69) rfl rfl)
theorem l_Str_495 : ZLk "java/lang/String" 495 M_Lat_charAt := Or.inl (zmem2 (i := 73) rfl rfl)
theorem l_Lat_9 : ZLk "java/lang/StringLatin1" 9 M_Str_checkIndex := Or.inl (zmem2 (i := 76) rfl rfl)
theorem l_Str_1059 : ZLk "java/lang/String" 1059 M_Pre_checkIndex := Or.inl (zmem2 (i := 81) rfl rfl)
theorem l_Str_498 : ZLk "java/lang/String" 498 M_U16_charAt := Or.inl (zmem2 (i := 84) rfl rfl)
theorem l_U16_67 : ZLk "java/lang/StringUTF16" 67 M_U16_checkIndex := Or.inl (zmem2 (i := 87) rfl rfl)
theorem l_U16_48 : ZLk "java/lang/StringUTF16" 48 M_U16_length := Or.inl (zmem2 (i := 90) rfl rfl)
theorem l_U16_414 : ZLk "java/lang/StringUTF16" 414 M_Str_checkIndex := Or.inl (zmem2 (i := 93) rfl rfl)
theorem l_U16_71 : ZLk "java/lang/StringUTF16" 71 M_U16_getChar := Or.inl (zmem2 (i := 94) rfl rfl)
theorem l_Tape_45 : ZLk "ApartGames$Tape" 45 M_Tape_blame := Or.inl (zmem2 (i := 103) rfl rfl)
theorem l_Tape_49 : ZLk "ApartGames$Tape" 49 M_Tape_readNumber := Or.inl (zmem2 (i := 107) rfl rfl)
theorem l_Tape_129 : ZLk "ApartGames$Tape" 129 M_Math_min := Or.inl (zmem2 (i := 111) rfl rfl)
theorem l_Tape_53 : ZLk "ApartGames$Tape" 53 M_Game_start := Or.inr ⟨"ApartGames", List.mem_of_getElem? (i := 11) rfl⟩
theorem l_Tape_32 : ZLk "ApartGames$Tape" 32 M_Tape_readPart := Or.inl (zmem2 (i := 118) rfl rfl)
theorem l_Tape_59 : ZLk "ApartGames$Tape" 59 M_Tape_kindOfWord := Or.inl (zmem2 (i := 122) rfl rfl)
theorem l_Tape_69 : ZLk "ApartGames$Tape" 69 M_Tape_readWeight := Or.inl (zmem2 (i := 133) rfl rfl)
theorem l_Tape_83 : ZLk "ApartGames$Tape" 83 M_Ap_cellOf := Or.inr ⟨"ApartGames", List.mem_of_getElem? (i := 12) rfl⟩
theorem l_Tape_73 : ZLk "ApartGames$Tape" 73 M_Tape_readSpot := Or.inl (zmem2 (i := 140) rfl rfl)
theorem l_Tape_93 : ZLk "ApartGames$Tape" 93 M_Ap_spotOf := Or.inr ⟨"ApartGames", List.mem_of_getElem? (i := 13) rfl⟩
theorem l_Tape_77 : ZLk "ApartGames$Tape" 77 M_Tape_winWhere := Or.inl (zmem2 (i := 147) rfl rfl)
theorem l_Tape_103 : ZLk "ApartGames$Tape" 103 M_Tape_suits := Or.inl (zmem2 (i := 150) rfl rfl)
theorem l_Ap_84 : ZLk "ApartGames" 84 M_Ap_takeSpare := Or.inl (zmem2 (i := 153) rfl rfl)
theorem l_Ap_87 : ZLk "ApartGames" 87 M_Past_forget := Or.inr ⟨"ApartGames", List.mem_of_getElem? (i := 14) rfl⟩
theorem l_Law_28 : ZLk "ApartGamesLaw" 28 M_Ap_weigh := Or.inl (zmem2 (i := 162) rfl rfl)
theorem l_Ap_93 : ZLk "ApartGames" 93 M_Game_hasCell := Or.inr ⟨"ApartGames", List.mem_of_getElem? (i := 15) rfl⟩
theorem l_Game_63 : ZLk "ApartGames$Game" 63 M_Game_hasQuestion := Or.inl (zmem2 (i := 170) rfl rfl)
theorem l_Game_52 : ZLk "ApartGames$Game" 52 M_Ap_isPlayer := Or.inr ⟨"ApartGames", List.mem_of_getElem? (i := 16) rfl⟩
theorem l_Game_56 : ZLk "ApartGames$Game" 56 M_Game_questionsOf := Or.inl (zmem2 (i := 177) rfl rfl)
theorem l_Ap_97 : ZLk "ApartGames" 97 M_Ap_cellOf := Or.inl (zmem2 (i := 181) rfl rfl)
theorem l_Ap_105 : ZLk "ApartGames" 105 M_Past_remember := Or.inr ⟨"ApartGames", List.mem_of_getElem? (i := 17) rfl⟩
theorem l_Past_23 : ZLk "ApartGames$Past" 23 M_Game_become := Or.inr ⟨"ApartGames", List.mem_of_getElem? (i := 18) rfl⟩
theorem l_Past_27 : ZLk "ApartGames$Past" 27 M_Math_min := Or.inl (zmem2 (i := 193) rfl rfl)
theorem l_Law_33 : ZLk "ApartGamesLaw" 33 M_Ap_decide := Or.inl (zmem2 (i := 194) rfl rfl)
theorem l_Ap_109 : ZLk "ApartGames" 109 M_Game_hasSpot := Or.inr ⟨"ApartGames", List.mem_of_getElem? (i := 19) rfl⟩
theorem l_Game_70 : ZLk "ApartGames$Game" 70 M_Game_hasCell := Or.inl (zmem2 (i := 202) rfl rfl)
theorem l_Game_67 : ZLk "ApartGames$Game" 67 M_Game_hasAnswer := Or.inl (zmem2 (i := 203) rfl rfl)
theorem l_Game_60 : ZLk "ApartGames$Game" 60 M_Game_answersOf := Or.inl (zmem2 (i := 207) rfl rfl)
theorem l_Ap_113 : ZLk "ApartGames" 113 M_Ap_spotOf := Or.inl (zmem2 (i := 211) rfl rfl)
theorem l_Law_38 : ZLk "ApartGamesLaw" 38 M_Ap_parity := Or.inl (zmem2 (i := 212) rfl rfl)
theorem l_Ap_120 : ZLk "ApartGames" 120 M_Game_signAt := Or.inr ⟨"ApartGames", List.mem_of_getElem? (i := 20) rfl⟩
theorem l_Game_48 : ZLk "ApartGames$Game" 48 M_Ap_spotOf := Or.inr ⟨"ApartGames", List.mem_of_getElem? (i := 21) rfl⟩
theorem l_Ap_124 : ZLk "ApartGames" 124 M_Game_winByParity := Or.inr ⟨"ApartGames", List.mem_of_getElem? (i := 22) rfl⟩
theorem l_Law_42 : ZLk "ApartGamesLaw" 42 M_Ap_exchange := Or.inl (zmem2 (i := 225) rfl rfl)
theorem l_Ap_128 : ZLk "ApartGames" 128 M_Game_hasTwoAnswers := Or.inr ⟨"ApartGames", List.mem_of_getElem? (i := 23) rfl⟩
theorem l_Ap_131 : ZLk "ApartGames" 131 M_Game_exchangeAnswers := Or.inr ⟨"ApartGames", List.mem_of_getElem? (i := 24) rfl⟩
theorem l_Game_73 : ZLk "ApartGames$Game" 73 M_Game_exchangeEntries := Or.inl (zmem2 (i := 237) rfl rfl)
theorem l_Law_46 : ZLk "ApartGamesLaw" 46 M_Ap_swap := Or.inl (zmem3 (i := 0) rfl rfl)
theorem l_Ap_135 : ZLk "ApartGames" 135 M_Game_isTold := Or.inr ⟨"ApartGames", List.mem_of_getElem? (i := 25) rfl⟩
theorem l_Ap_138 : ZLk "ApartGames" 138 M_Game_becomeFlipped := Or.inr ⟨"ApartGames", List.mem_of_getElem? (i := 26) rfl⟩
theorem l_Game_40 : ZLk "ApartGames$Game" 40 M_Ap_cellOf := Or.inr ⟨"ApartGames", List.mem_of_getElem? (i := 27) rfl⟩
theorem l_Game_44 : ZLk "ApartGames$Game" 44 M_Game_flipAnswers := Or.inl (zmem3 (i := 13) rfl rfl)
theorem l_Law_50 : ZLk "ApartGamesLaw" 50 M_Ap_drop := Or.inl (zmem3 (i := 17) rfl rfl)
theorem l_Ap_141 : ZLk "ApartGames" 141 M_Game_hasQuestion := Or.inr ⟨"ApartGames", List.mem_of_getElem? (i := 28) rfl⟩
theorem l_Ap_144 : ZLk "ApartGames" 144 M_Game_questionsOf := Or.inr ⟨"ApartGames", List.mem_of_getElem? (i := 29) rfl⟩
theorem l_Ap_148 : ZLk "ApartGames" 148 M_Game_dropQuestion := Or.inr ⟨"ApartGames", List.mem_of_getElem? (i := 30) rfl⟩
theorem l_Game_77 : ZLk "ApartGames$Game" 77 M_Game_copyOver := Or.inl (zmem3 (i := 27) rfl rfl)
theorem l_Game_81 : ZLk "ApartGames$Game" 81 M_Game_setQuestions := Or.inl (zmem3 (i := 31) rfl rfl)
theorem l_Law_55 : ZLk "ApartGamesLaw" 55 M_Ap_copy := Or.inl (zmem3 (i := 35) rfl rfl)
theorem l_Ap_151 : ZLk "ApartGames" 151 M_Game_addQuestionLike := Or.inr ⟨"ApartGames", List.mem_of_getElem? (i := 31) rfl⟩
theorem l_Law_59 : ZLk "ApartGamesLaw" 59 M_Ap_box := Or.inl (zmem3 (i := 43) rfl rfl)
theorem l_Law_63 : ZLk "ApartGamesLaw" 63 M_Ap_mix := Or.inl (zmem3 (i := 47) rfl rfl)
theorem l_Ap_157 : ZLk "ApartGames" 157 M_Duo_takeBoth := Or.inr ⟨"ApartGames", List.mem_of_getElem? (i := 32) rfl⟩
theorem l_Duo_21 : ZLk "ApartGames$Duo" 21 M_Duo_take := Or.inl (zmem3 (i := 55) rfl rfl)
theorem l_Duo_25 : ZLk "ApartGames$Duo" 25 M_Duo_answersBy := Or.inl (zmem3 (i := 59) rfl rfl)
theorem l_Duo_29 : ZLk "ApartGames$Duo" 29 M_Game_isTold := Or.inr ⟨"ApartGames", List.mem_of_getElem? (i := 33) rfl⟩
theorem l_Duo_35 : ZLk "ApartGames$Duo" 35 M_Game_questionsOf := Or.inr ⟨"ApartGames", List.mem_of_getElem? (i := 34) rfl⟩
theorem l_Duo_39 : ZLk "ApartGames$Duo" 39 M_Game_hasAnswer := Or.inr ⟨"ApartGames", List.mem_of_getElem? (i := 35) rfl⟩
theorem l_Ap_161 : ZLk "ApartGames" 161 M_Duo_greatestBox := Or.inr ⟨"ApartGames", List.mem_of_getElem? (i := 36) rfl⟩
theorem l_Duo_94 : ZLk "ApartGames$Duo" 94 M_Ap_spotOf := Or.inr ⟨"ApartGames", List.mem_of_getElem? (i := 37) rfl⟩
theorem l_Duo_62 : ZLk "ApartGames$Duo" 62 M_Math_max := Or.inl (zmem3 (i := 71) rfl rfl)
theorem l_Ap_164 : ZLk "ApartGames" 164 M_Duo_addToBoxes := Or.inr ⟨"ApartGames", List.mem_of_getElem? (i := 38) rfl⟩
theorem l_Law_67 : ZLk "ApartGamesLaw" 67 M_Ap_draw := Or.inl (zmem3 (i := 78) rfl rfl)
theorem l_Ap_168 : ZLk "ApartGames" 168 M_Game_drawAll := Or.inr ⟨"ApartGames", List.mem_of_getElem? (i := 39) rfl⟩
theorem l_Game_85 : ZLk "ApartGames$Game" 85 M_Game_nextState := Or.inl (zmem3 (i := 86) rfl rfl)
theorem l_Ap_171 : ZLk "ApartGames" 171 M_Game_winningSpots := Or.inr ⟨"ApartGames", List.mem_of_getElem? (i := 40) rfl⟩
theorem l_Game_89 : ZLk "ApartGames$Game" 89 M_Game_winningAt := Or.inl (zmem3 (i := 94) rfl rfl)
theorem l_Law_71 : ZLk "ApartGamesLaw" 71 M_Ap_undo := Or.inl (zmem3 (i := 98) rfl rfl)
theorem l_Ap_178 : ZLk "ApartGames" 178 M_Past_restore := Or.inr ⟨"ApartGames", List.mem_of_getElem? (i := 41) rfl⟩
theorem l_Law_75 : ZLk "ApartGamesLaw" 75 M_Ap_keep := Or.inl (zmem3 (i := 106) rfl rfl)
theorem l_Ap_181 : ZLk "ApartGames" 181 M_Game_become := Or.inr ⟨"ApartGames", List.mem_of_getElem? (i := 42) rfl⟩
theorem l_Law_79 : ZLk "ApartGamesLaw" 79 M_Ap_back := Or.inl (zmem3 (i := 111) rfl rfl)
theorem l_Law_83 : ZLk "ApartGamesLaw" 83 M_Ap_wins := Or.inl (zmem3 (i := 115) rfl rfl)
theorem l_Law_87 : ZLk "ApartGamesLaw" 87 M_Ap_weight := Or.inl (zmem3 (i := 119) rfl rfl)
theorem l_Law_91 : ZLk "ApartGamesLaw" 91 M_Ap_worth := Or.inl (zmem3 (i := 123) rfl rfl)
theorem l_Ap_184 : ZLk "ApartGames" 184 M_Ap_mostOf := Or.inl (zmem3 (i := 127) rfl rfl)
theorem l_Ap_190 : ZLk "ApartGames" 190 M_Table_loadSome := Or.inr ⟨"ApartGames", List.mem_of_getElem? (i := 43) rfl⟩
theorem l_Table_50 : ZLk "ApartGames$Table" 50 M_Game_answersOf := Or.inr ⟨"ApartGames", List.mem_of_getElem? (i := 44) rfl⟩
theorem l_Table_56 : ZLk "ApartGames$Table" 56 M_Game_questionsOf := Or.inr ⟨"ApartGames", List.mem_of_getElem? (i := 45) rfl⟩
theorem l_Table_59 : ZLk "ApartGames$Table" 59 M_Table_setSizes := Or.inl (zmem3 (i := 137) rfl rfl)
theorem l_Table_63 : ZLk "ApartGames$Table" 63 M_Table_loadQuestion := Or.inl (zmem3 (i := 141) rfl rfl)
theorem l_Table_67 : ZLk "ApartGames$Table" 67 M_Game_gain := Or.inr ⟨"ApartGames", List.mem_of_getElem? (i := 46) rfl⟩
theorem l_Ap_288 : ZLk "ApartGames" 288 M_Table_mostAbove := Or.inr ⟨"ApartGames", List.mem_of_getElem? (i := 47) rfl⟩
theorem l_Table_108 : ZLk "ApartGames$Table" 108 M_Table_clearFirstSums := Or.inl (zmem3 (i := 153) rfl rfl)
theorem l_Table_178 : ZLk "ApartGames$Table" 178 M_Table_fillHopes := Or.inl (zmem3 (i := 157) rfl rfl)
theorem l_Table_197 : ZLk "ApartGames$Table" 197 M_Table_greatestGain := Or.inl (zmem3 (i := 161) rfl rfl)
theorem l_Table_119 : ZLk "ApartGames$Table" 119 M_Math_max := Or.inl (zmem3 (i := 165) rfl rfl)
theorem l_Table_181 : ZLk "ApartGames$Table" 181 M_Table_markNeedless := Or.inl (zmem3 (i := 166) rfl rfl)
theorem l_Table_191 : ZLk "ApartGames$Table" 191 M_Table_isCovered := Or.inl (zmem3 (i := 170) rfl rfl)
theorem l_Table_194 : ZLk "ApartGames$Table" 194 M_Table_covers := Or.inl (zmem3 (i := 174) rfl rfl)
theorem l_Table_184 : ZLk "ApartGames$Table" 184 M_Table_hopeAt := Or.inl (zmem3 (i := 178) rfl rfl)
theorem l_Table_187 : ZLk "ApartGames$Table" 187 M_Table_search := Or.inl (zmem3 (i := 182) rfl rfl)
theorem l_Table_115 : ZLk "ApartGames$Table" 115 M_Table_addLine := Or.inl (zmem3 (i := 185) rfl rfl)
theorem l_Ap_187 : ZLk "ApartGames" 187 M_Game_weightTogether := Or.inr ⟨"ApartGames", List.mem_of_getElem? (i := 48) rfl⟩
theorem l_Ap_194 : ZLk "ApartGames" 194 M_Table_leastLow := Or.inr ⟨"ApartGames", List.mem_of_getElem? (i := 49) rfl⟩
theorem l_Table_133 : ZLk "ApartGames$Table" 133 M_Table_rows := Or.inl (zmem3 (i := 197) rfl rfl)
theorem l_Table_137 : ZLk "ApartGames$Table" 137 M_Table_begin := Or.inl (zmem3 (i := 201) rfl rfl)
theorem l_Table_111 : ZLk "ApartGames$Table" 111 M_Table_sumFrom := Or.inl (zmem3 (i := 205) rfl rfl)
theorem l_Table_140 : ZLk "ApartGames$Table" 140 M_Table_low := Or.inl (zmem3 (i := 209) rfl rfl)
theorem l_Table_130 : ZLk "ApartGames$Table" 130 M_Table_lowAt := Or.inl (zmem3 (i := 213) rfl rfl)
theorem l_Table_124 : ZLk "ApartGames$Table" 124 M_Math_min := Or.inl (zmem3 (i := 217) rfl rfl)
theorem l_Table_143 : ZLk "ApartGames$Table" 143 M_Table_step := Or.inl (zmem3 (i := 218) rfl rfl)
theorem l_Ap_197 : ZLk "ApartGames" 197 M_Table_mostLow := Or.inr ⟨"ApartGames", List.mem_of_getElem? (i := 50) rfl⟩
theorem l_Law_95 : ZLk "ApartGamesLaw" 95 M_Ap_sure := Or.inl (zmem3 (i := 226) rfl rfl)
theorem l_Ap_200 : ZLk "ApartGames" 200 M_Ap_isPlayer := Or.inl (zmem3 (i := 230) rfl rfl)
theorem l_Ap_204 : ZLk "ApartGames" 204 M_Table_firstRowOfLow := Or.inr ⟨"ApartGames", List.mem_of_getElem? (i := 51) rfl⟩
theorem l_Table_146 : ZLk "ApartGames$Table" 146 M_Duo_numberOf := Or.inr ⟨"ApartGames", List.mem_of_getElem? (i := 52) rfl⟩
theorem l_Law_99 : ZLk "ApartGamesLaw" 99 M_Ap_play := Or.inl (zmem3 (i := 238) rfl rfl)
theorem l_Ap_207 : ZLk "ApartGames" 207 M_Duo_worthBoth := Or.inr ⟨"ApartGames", List.mem_of_getElem? (i := 53) rfl⟩
theorem l_Duo_51 : ZLk "ApartGames$Duo" 51 M_Duo_worthAt := Or.inl (zmem4 (i := 6) rfl rfl)
theorem l_Duo_55 : ZLk "ApartGames$Duo" 55 M_Game_gain := Or.inr ⟨"ApartGames", List.mem_of_getElem? (i := 54) rfl⟩
theorem l_Law_103 : ZLk "ApartGamesLaw" 103 M_Ap_hangs := Or.inl (zmem4 (i := 11) rfl rfl)
theorem l_Ap_210 : ZLk "ApartGames" 210 M_Duo_take := Or.inr ⟨"ApartGames", List.mem_of_getElem? (i := 55) rfl⟩
theorem l_Ap_213 : ZLk "ApartGames" 213 M_Duo_spanAt := Or.inr ⟨"ApartGames", List.mem_of_getElem? (i := 56) rfl⟩
theorem l_Duo_68 : ZLk "ApartGames$Duo" 68 M_Math_min := Or.inl (zmem4 (i := 20) rfl rfl)
theorem l_Law_107 : ZLk "ApartGamesLaw" 107 M_Ap_reply := Or.inl (zmem4 (i := 21) rfl rfl)
theorem l_Ap_217 : ZLk "ApartGames" 217 M_Duo_answerBest := Or.inr ⟨"ApartGames", List.mem_of_getElem? (i := 57) rfl⟩
theorem l_Duo_71 : ZLk "ApartGames$Duo" 71 M_Game_answersOf := Or.inr ⟨"ApartGames", List.mem_of_getElem? (i := 58) rfl⟩
theorem l_Ap_220 : ZLk "ApartGames" 220 M_Duo_bestReply := Or.inr ⟨"ApartGames", List.mem_of_getElem? (i := 59) rfl⟩
theorem l_Duo_43 : ZLk "ApartGames$Duo" 43 M_Duo_numberOf := Or.inl (zmem4 (i := 34) rfl rfl)
theorem l_Law_111 : ZLk "ApartGamesLaw" 111 M_Ap_bests := Or.inl (zmem4 (i := 35) rfl rfl)
theorem l_Ap_225 : ZLk "ApartGames" 225 M_Table_countTops := Or.inr ⟨"ApartGames", List.mem_of_getElem? (i := 60) rfl⟩
theorem l_Table_155 : ZLk "ApartGames$Table" 155 M_Table_high := Or.inl (zmem4 (i := 44) rfl rfl)
theorem l_Table_127 : ZLk "ApartGames$Table" 127 M_Table_highAt := Or.inl (zmem4 (i := 48) rfl rfl)
theorem l_Table_158 : ZLk "ApartGames$Table" 158 M_Table_topRowsFrom := Or.inl (zmem4 (i := 52) rfl rfl)
theorem l_Table_152 : ZLk "ApartGames$Table" 152 M_Table_topReplies := Or.inl (zmem4 (i := 56) rfl rfl)
theorem l_Law_116 : ZLk "ApartGamesLaw" 116 M_Ap_best := Or.inl (zmem4 (i := 60) rfl rfl)
theorem l_Ap_229 : ZLk "ApartGames" 229 M_Table_rowOfTop := Or.inr ⟨"ApartGames", List.mem_of_getElem? (i := 61) rfl⟩
theorem l_Table_172 : ZLk "ApartGames$Table" 172 M_Table_findTopReplies := Or.inl (zmem4 (i := 68) rfl rfl)
theorem l_Table_175 : ZLk "ApartGames$Table" 175 M_Table_topReplyAt := Or.inl (zmem4 (i := 72) rfl rfl)
theorem l_Table_168 : ZLk "ApartGames$Table" 168 M_Table_isTopReply := Or.inl (zmem4 (i := 76) rfl rfl)
theorem l_Law_120 : ZLk "ApartGamesLaw" 120 M_Ap_lost := Or.inl (zmem4 (i := 80) rfl rfl)
theorem l_Ap_232 : ZLk "ApartGames" 232 M_Table_countTopsLosing := Or.inr ⟨"ApartGames", List.mem_of_getElem? (i := 62) rfl⟩
theorem l_Table_161 : ZLk "ApartGames$Table" 161 M_Table_topRowsLosing := Or.inl (zmem4 (i := 88) rfl rfl)
theorem l_Table_165 : ZLk "ApartGames$Table" 165 M_Table_topRepliesLosing := Or.inl (zmem4 (i := 92) rfl rfl)
theorem l_Table_97 : ZLk "ApartGames$Table" 97 M_Ap_spotOf := Or.inr ⟨"ApartGames", List.mem_of_getElem? (i := 63) rfl⟩
theorem l_Law_125 : ZLk "ApartGamesLaw" 125 M_Ap_mean := Or.inl (zmem4 (i := 97) rfl rfl)
theorem l_Ap_236 : ZLk "ApartGames" 236 M_Game_weightOfWinningSpots := Or.inr ⟨"ApartGames", List.mem_of_getElem? (i := 64) rfl⟩
theorem l_Ap_245 : ZLk "ApartGames" 245 M_Ap_commonDivisor := Or.inl (zmem4 (i := 105) rfl rfl)
theorem l_Law_130 : ZLk "ApartGamesLaw" 130 M_Ap_talk := Or.inl (zmem4 (i := 108) rfl rfl)
theorem l_Ap_248 : ZLk "ApartGames" 248 M_Ap_mostAsked := Or.inl (zmem4 (i := 112) rfl rfl)
theorem l_Law_134 : ZLk "ApartGamesLaw" 134 M_Ap_without := Or.inl (zmem4 (i := 116) rfl rfl)
theorem l_Law_138 : ZLk "ApartGamesLaw" 138 M_Ap_lesser := Or.inl (zmem4 (i := 120) rfl rfl)
theorem l_Ap_251 : ZLk "ApartGames" 251 M_Game_isLesser := Or.inr ⟨"ApartGames", List.mem_of_getElem? (i := 65) rfl⟩
theorem l_Game_93 : ZLk "ApartGames$Game" 93 M_Game_gain := Or.inl (zmem4 (i := 128) rfl rfl)
theorem l_Law_142 : ZLk "ApartGamesLaw" 142 M_Ap_same := Or.inl (zmem4 (i := 129) rfl rfl)
theorem l_Ap_254 : ZLk "ApartGames" 254 M_Game_areSame := Or.inr ⟨"ApartGames", List.mem_of_getElem? (i := 66) rfl⟩
theorem l_Game_96 : ZLk "ApartGames$Game" 96 M_Game_areSameSpots := Or.inl (zmem4 (i := 137) rfl rfl)
theorem l_Law_146 : ZLk "ApartGamesLaw" 146 M_Ap_climb := Or.inl (zmem4 (i := 141) rfl rfl)
theorem l_Ap_258 : ZLk "ApartGames" 258 M_Duo_climbUp := Or.inr ⟨"ApartGames", List.mem_of_getElem? (i := 67) rfl⟩
theorem l_Duo_74 : ZLk "ApartGames$Duo" 74 M_Duo_worthBoth := Or.inl (zmem4 (i := 149) rfl rfl)
theorem l_Duo_78 : ZLk "ApartGames$Duo" 78 M_Duo_answerBest := Or.inl (zmem4 (i := 150) rfl rfl)
theorem l_Ap_261 : ZLk "ApartGames" 261 M_Duo_rowOf := Or.inr ⟨"ApartGames", List.mem_of_getElem? (i := 68) rfl⟩
theorem l_Law_150 : ZLk "ApartGamesLaw" 150 M_Ap_cut := Or.inl (zmem4 (i := 156) rfl rfl)
theorem l_Law_154 : ZLk "ApartGamesLaw" 154 M_Ap_parts := Or.inl (zmem4 (i := 160) rfl rfl)
theorem l_Ap_264 : ZLk "ApartGames" 264 M_Shape_partsOf := Or.inr ⟨"ApartGames", List.mem_of_getElem? (i := 69) rfl⟩
theorem l_Shape_21 : ZLk "ApartGames$Shape" 21 M_Shape_markParts := Or.inl (zmem4 (i := 168) rfl rfl)
theorem l_Shape_43 : ZLk "ApartGames$Shape" 43 M_Ap_cellOf := Or.inr ⟨"ApartGames", List.mem_of_getElem? (i := 70) rfl⟩
theorem l_Shape_47 : ZLk "ApartGames$Shape" 47 M_Shape_joinParts := Or.inl (zmem4 (i := 173) rfl rfl)
theorem l_Shape_51 : ZLk "ApartGames$Shape" 51 M_Math_min := Or.inl (zmem4 (i := 177) rfl rfl)
theorem l_Ap_267 : ZLk "ApartGames" 267 M_Shape_greatestPartOf := Or.inr ⟨"ApartGames", List.mem_of_getElem? (i := 71) rfl⟩
theorem l_Shape_25 : ZLk "ApartGames$Shape" 25 M_Math_max := Or.inl (zmem4 (i := 182) rfl rfl)
theorem l_Law_158 : ZLk "ApartGamesLaw" 158 M_Ap_sign := Or.inl (zmem4 (i := 183) rfl rfl)
theorem l_Law_162 : ZLk "ApartGamesLaw" 162 M_Ap_bias := Or.inl (zmem4 (i := 187) rfl rfl)
theorem l_Ap_270 : ZLk "ApartGames" 270 M_Game_isParityGame := Or.inr ⟨"ApartGames", List.mem_of_getElem? (i := 72) rfl⟩
theorem l_Game_100 : ZLk "ApartGames$Game" 100 M_Game_signAt := Or.inl (zmem4 (i := 195) rfl rfl)
theorem l_Ap_273 : ZLk "ApartGames" 273 M_Ap_mostBias := Or.inl (zmem4 (i := 196) rfl rfl)
theorem l_Ap_276 : ZLk "ApartGames" 276 M_Game_squares := Or.inr ⟨"ApartGames", List.mem_of_getElem? (i := 73) rfl⟩
theorem l_Game_103 : ZLk "ApartGames$Game" 103 M_Game_squaresOfTwo := Or.inl (zmem4 (i := 204) rfl rfl)
theorem l_Game_107 : ZLk "ApartGames$Game" 107 M_Game_signedWeight := Or.inl (zmem4 (i := 208) rfl rfl)
theorem l_Law_166 : ZLk "ApartGamesLaw" 166 M_Ap_twice := Or.inl (zmem4 (i := 212) rfl rfl)
theorem l_Ap_280 : ZLk "ApartGames" 280 M_Ap_rowsTwice := Or.inl (zmem4 (i := 216) rfl rfl)
theorem l_Ap_284 : ZLk "ApartGames" 284 M_Table_loadTwice := Or.inr ⟨"ApartGames", List.mem_of_getElem? (i := 74) rfl⟩
theorem l_Table_83 : ZLk "ApartGames$Table" 83 M_Table_loadTwiceLine := Or.inl (zmem4 (i := 225) rfl rfl)
theorem l_Table_90 : ZLk "ApartGames$Table" 90 M_Ap_cellOf := Or.inr ⟨"ApartGames", List.mem_of_getElem? (i := 75) rfl⟩
theorem l_Law_170 : ZLk "ApartGamesLaw" 170 M_Ap_product := Or.inl (zmem4 (i := 230) rfl rfl)
theorem l_Ap_291 : ZLk "ApartGames" 291 M_Table_loadWithItself := Or.inr ⟨"ApartGames", List.mem_of_getElem? (i := 76) rfl⟩
theorem l_Table_100 : ZLk "ApartGames$Table" 100 M_Table_loadWithItselfLines := Or.inl (zmem4 (i := 238) rfl rfl)
theorem l_Table_104 : ZLk "ApartGames$Table" 104 M_Game_signedWeight := Or.inr ⟨"ApartGames", List.mem_of_getElem? (i := 77) rfl⟩
theorem l_Law_174 : ZLk "ApartGamesLaw" 174 M_Ap_boxed := Or.inl (zmem5 (i := 3) rfl rfl)
theorem l_Ap_294 : ZLk "ApartGames" 294 M_Game_boxWorth := Or.inr ⟨"ApartGames", List.mem_of_getElem? (i := 78) rfl⟩
theorem l_Ap_297 : ZLk "ApartGames" 297 M_Game_isWhole := Or.inr ⟨"ApartGames", List.mem_of_getElem? (i := 79) rfl⟩
theorem l_Game_110 : ZLk "ApartGames$Game" 110 M_Game_howOften := Or.inl (zmem5 (i := 15) rfl rfl)
theorem l_Ap_300 : ZLk "ApartGames" 300 M_Game_signalsTo := Or.inr ⟨"ApartGames", List.mem_of_getElem? (i := 80) rfl⟩
theorem l_Law_178 : ZLk "ApartGamesLaw" 178 M_Ap_marginal := Or.inl (zmem5 (i := 23) rfl rfl)
theorem l_Ap_303 : ZLk "ApartGames" 303 M_Game_hasAnswer := Or.inr ⟨"ApartGames", List.mem_of_getElem? (i := 81) rfl⟩
theorem l_Ap_306 : ZLk "ApartGames" 306 M_Game_howOften := Or.inr ⟨"ApartGames", List.mem_of_getElem? (i := 82) rfl⟩
theorem l_Law_182 : ZLk "ApartGamesLaw" 182 M_Ap_symmetries := Or.inl (zmem5 (i := 29) rfl rfl)
theorem l_Ap_310 : ZLk "ApartGames" 310 M_Shape_ordersOf := Or.inr ⟨"ApartGames", List.mem_of_getElem? (i := 83) rfl⟩
theorem l_Shape_54 : ZLk "ApartGames$Shape" 54 M_Shape_noteLooks := Or.inl (zmem5 (i := 37) rfl rfl)
theorem l_Shape_73 : ZLk "ApartGames$Shape" 73 M_Ap_spotOf := Or.inr ⟨"ApartGames", List.mem_of_getElem? (i := 84) rfl⟩
theorem l_Shape_57 : ZLk "ApartGames$Shape" 57 M_Shape_setOrder := Or.inl (zmem5 (i := 42) rfl rfl)
theorem l_Shape_77 : ZLk "ApartGames$Shape" 77 M_Shape_freePlace := Or.inl (zmem5 (i := 46) rfl rfl)
theorem l_Shape_60 : ZLk "ApartGames$Shape" 60 M_Shape_ordersOfBen := Or.inl (zmem5 (i := 49) rfl rfl)
theorem l_Shape_80 : ZLk "ApartGames$Shape" 80 M_Shape_looksLike := Or.inl (zmem5 (i := 53) rfl rfl)
theorem l_Law_186 : ZLk "ApartGamesLaw" 186 M_Ap_letter := Or.inl (zmem5 (i := 57) rfl rfl)
theorem l_Ap_313 : ZLk "ApartGames" 313 M_Scribe_write := Or.inr ⟨"ApartGames", List.mem_of_getElem? (i := 85) rfl⟩
theorem l_Scribe_21 : ZLk "ApartGames$Scribe" 21 M_Game_isTold := Or.inr ⟨"ApartGames", List.mem_of_getElem? (i := 86) rfl⟩
theorem l_Scribe_29 : ZLk "ApartGames$Scribe" 29 M_Scribe_writeWord := Or.inl (zmem5 (i := 67) rfl rfl)
theorem l_Scribe_89 : ZLk "ApartGames$Scribe" 89 M_Str_length := Or.inl (zmem5 (i := 71) rfl rfl)
theorem l_Scribe_94 : ZLk "ApartGames$Scribe" 94 M_Str_charAt := Or.inl (zmem5 (i := 72) rfl rfl)
theorem l_Scribe_98 : ZLk "ApartGames$Scribe" 98 M_Scribe_put := Or.inl (zmem5 (i := 73) rfl rfl)
theorem l_Scribe_36 : ZLk "ApartGames$Scribe" 36 M_Scribe_writeNumber := Or.inl (zmem5 (i := 77) rfl rfl)
theorem l_Scribe_49 : ZLk "ApartGames$Scribe" 49 M_Scribe_writeWeights := Or.inl (zmem5 (i := 81) rfl rfl)
theorem l_Scribe_71 : ZLk "ApartGames$Scribe" 71 M_Ap_cellOf := Or.inr ⟨"ApartGames", List.mem_of_getElem? (i := 87) rfl⟩
theorem l_Scribe_59 : ZLk "ApartGames$Scribe" 59 M_Scribe_writeSpots := Or.inl (zmem5 (i := 88) rfl rfl)
theorem l_Scribe_77 : ZLk "ApartGames$Scribe" 77 M_Ap_spotOf := Or.inr ⟨"ApartGames", List.mem_of_getElem? (i := 88) rfl⟩
theorem l_Scribe_81 : ZLk "ApartGames$Scribe" 81 M_Scribe_writeSpot := Or.inl (zmem5 (i := 93) rfl rfl)
theorem l_Scribe_85 : ZLk "ApartGames$Scribe" 85 M_Scribe_writeEntry := Or.inl (zmem5 (i := 97) rfl rfl)
theorem l_Law_190 : ZLk "ApartGamesLaw" 190 M_Ap_count := Or.inl (zmem5 (i := 102) rfl rfl)
theorem l_Law_12 : ZLk "ApartGamesLaw" 12 M_Mo_init := Or.inl (zmem5 (i := 108) rfl rfl)
theorem l_Mo_1 : ZLk "ApartGamesModel" 1 M_Obj_init := Or.inl (zmem5 (i := 111) rfl rfl)
theorem l_Law_17 : ZLk "ApartGamesLaw" 17 M_Mo_feed := Or.inl (zmem5 (i := 191) rfl rfl)
theorem l_Mo_68 : ZLk "ApartGamesModel" 68 M_Mo_puts := Or.inl (zmem5 (i := 195) rfl rfl)
theorem l_Law_22 : ZLk "ApartGamesLaw" 22 M_Mo_end := Or.inl (zmem5 (i := 199) rfl rfl)
theorem l_Law_27 : ZLk "ApartGamesLaw" 27 M_Mo_tell := Or.inl (zmem5 (i := 203) rfl rfl)
theorem l_Mo_128 : ZLk "ApartGamesModel" 128 M_Mo_takes := Or.inl (zmem5 (i := 208) rfl rfl)
theorem l_Mo_86 : ZLk "ApartGamesModel" 86 M_Mo_next := Or.inl (zmem5 (i := 212) rfl rfl)
theorem l_Mo_75 : ZLk "ApartGamesModel" 75 M_Mo_sign_0 := Or.inl (zmem5 (i := 216) rfl rfl)
theorem l_Mo_93 : ZLk "ApartGamesModel" 93 M_Mo_in := Or.inl (zmem5 (i := 222) rfl rfl)
theorem l_Mo_97 : ZLk "ApartGamesModel" 97 M_Str_length := Or.inl (zmem5 (i := 225) rfl rfl)
theorem l_Mo_102 : ZLk "ApartGamesModel" 102 M_Str_charAt := Or.inl (zmem5 (i := 226) rfl rfl)
theorem l_Mo_110 : ZLk "ApartGamesModel" 110 M_Mo_fails := Or.inl (zmem5 (i := 227) rfl rfl)
theorem l_Mo_82 : ZLk "ApartGamesModel" 82 M_Mo_isRight := Or.inl (zmem5 (i := 231) rfl rfl)
theorem l_Mo_144 : ZLk "ApartGamesModel" 144 M_Mo_number := Or.inl (zmem5 (i := 235) rfl rfl)
theorem l_Mo_117 : ZLk "ApartGamesModel" 117 M_Math_min := Or.inl (zmem6 (i := 1) rfl rfl)
theorem l_Mo_60 : ZLk "ApartGamesModel" 60 M_Mo_twoOf := Or.inl (zmem6 (i := 2) rfl rfl)
theorem l_Mo_153 : ZLk "ApartGamesModel" 153 M_Mo_readsPart := Or.inl (zmem6 (i := 5) rfl rfl)
theorem l_Mo_147 : ZLk "ApartGamesModel" 147 M_Mo_readsWins := Or.inl (zmem6 (i := 16) rfl rfl)
theorem l_Mo_122 : ZLk "ApartGamesModel" 122 M_Mo_fourOf := Or.inl (zmem6 (i := 20) rfl rfl)
theorem l_Mo_156 : ZLk "ApartGamesModel" 156 M_Mo_moves := Or.inl (zmem6 (i := 23) rfl rfl)
theorem l_Law_74 : ZLk "ApartGamesLaw" 74 M_Mo_undo := Or.inl (zmem6 (i := 26) rfl rfl)
theorem l_Law_78 : ZLk "ApartGamesLaw" 78 M_Mo_keep := Or.inl (zmem6 (i := 30) rfl rfl)
theorem l_Law_82 : ZLk "ApartGamesLaw" 82 M_Mo_back := Or.inl (zmem6 (i := 34) rfl rfl)
theorem l_Law_32 : ZLk "ApartGamesLaw" 32 M_Mo_weigh := Or.inl (zmem6 (i := 38) rfl rfl)
theorem l_Mo_174 : ZLk "ApartGamesModel" 174 M_Mo_areTwo := Or.inl (zmem6 (i := 42) rfl rfl)
theorem l_Mo_170 : ZLk "ApartGamesModel" 170 M_Mo_isQuestion := Or.inl (zmem6 (i := 46) rfl rfl)
theorem l_Mo_163 : ZLk "ApartGamesModel" 163 M_Mo_questions := Or.inl (zmem6 (i := 50) rfl rfl)
theorem l_Mo_188 : ZLk "ApartGamesModel" 188 M_Mo_becomes := Or.inl (zmem6 (i := 55) rfl rfl)
theorem l_Mo_183 : ZLk "ApartGamesModel" 183 M_Mo_keepsPast := Or.inl (zmem6 (i := 59) rfl rfl)
theorem l_Law_62 : ZLk "ApartGamesLaw" 62 M_Mo_box := Or.inl (zmem6 (i := 63) rfl rfl)
theorem l_Mo_191 : ZLk "ApartGamesModel" 191 M_Mo_areFour := Or.inl (zmem6 (i := 67) rfl rfl)
theorem l_Mo_177 : ZLk "ApartGamesModel" 177 M_Mo_isAnswer := Or.inl (zmem6 (i := 71) rfl rfl)
theorem l_Mo_167 : ZLk "ApartGamesModel" 167 M_Mo_answers := Or.inl (zmem6 (i := 75) rfl rfl)
theorem l_Law_37 : ZLk "ApartGamesLaw" 37 M_Mo_decide := Or.inl (zmem6 (i := 80) rfl rfl)
theorem l_Law_41 : ZLk "ApartGamesLaw" 41 M_Mo_parity := Or.inl (zmem6 (i := 84) rfl rfl)
theorem l_Mo_200 : ZLk "ApartGamesModel" 200 M_Mo_isParity := Or.inl (zmem6 (i := 88) rfl rfl)
theorem l_Mo_197 : ZLk "ApartGamesModel" 197 M_Mo_isWin := Or.inl (zmem6 (i := 92) rfl rfl)
theorem l_Mo_204 : ZLk "ApartGamesModel" 204 M_Mo_truth := Or.inl (zmem6 (i := 96) rfl rfl)
theorem l_Law_45 : ZLk "ApartGamesLaw" 45 M_Mo_exchange := Or.inl (zmem6 (i := 99) rfl rfl)
theorem l_Mo_208 : ZLk "ApartGamesModel" 208 M_Mo_isPlayer := Or.inl (zmem6 (i := 103) rfl rfl)
theorem l_Mo_212 : ZLk "ApartGamesModel" 212 M_Mo_exchanges := Or.inl (zmem6 (i := 106) rfl rfl)
theorem l_Law_49 : ZLk "ApartGamesLaw" 49 M_Mo_swap := Or.inl (zmem6 (i := 110) rfl rfl)
theorem l_Mo_215 : ZLk "ApartGamesModel" 215 M_Mo_hasGame := Or.inl (zmem6 (i := 114) rfl rfl)
theorem l_Law_54 : ZLk "ApartGamesLaw" 54 M_Mo_drop := Or.inl (zmem6 (i := 118) rfl rfl)
theorem l_Mo_218 : ZLk "ApartGamesModel" 218 M_Mo_copies := Or.inl (zmem6 (i := 122) rfl rfl)
theorem l_Law_58 : ZLk "ApartGamesLaw" 58 M_Mo_copy := Or.inl (zmem6 (i := 126) rfl rfl)
theorem l_Law_66 : ZLk "ApartGamesLaw" 66 M_Mo_mix := Or.inl (zmem6 (i := 130) rfl rfl)
theorem l_Mo_229 : ZLk "ApartGamesModel" 229 M_Mo_lays := Or.inl (zmem6 (i := 134) rfl rfl)
theorem l_Mo_222 : ZLk "ApartGamesModel" 222 M_Mo_rowOf := Or.inl (zmem6 (i := 138) rfl rfl)
theorem l_Mo_226 : ZLk "ApartGamesModel" 226 M_Math_floorMod := Or.inl (zmem6 (i := 142) rfl rfl)
theorem l_Mo_232 : ZLk "ApartGamesModel" 232 M_Mo_boxOf := Or.inl (zmem6 (i := 145) rfl rfl)
theorem l_Law_70 : ZLk "ApartGamesLaw" 70 M_Mo_draw := Or.inl (zmem6 (i := 149) rfl rfl)
theorem l_Mo_239 : ZLk "ApartGamesModel" 239 M_Mo_draws := Or.inl (zmem6 (i := 153) rfl rfl)
theorem l_Mo_242 : ZLk "ApartGamesModel" 242 M_Mo_winsMany := Or.inl (zmem6 (i := 158) rfl rfl)
theorem l_Law_86 : ZLk "ApartGamesLaw" 86 M_Mo_wins := Or.inl (zmem6 (i := 162) rfl rfl)
theorem l_Law_90 : ZLk "ApartGamesLaw" 90 M_Mo_weight := Or.inl (zmem6 (i := 166) rfl rfl)
theorem l_Mo_180 : ZLk "ApartGamesModel" 180 M_Mo_weightOf := Or.inl (zmem6 (i := 170) rfl rfl)
theorem l_Law_94 : ZLk "ApartGamesLaw" 94 M_Mo_worth := Or.inl (zmem6 (i := 174) rfl rfl)
theorem l_Mo_281 : ZLk "ApartGamesModel" 281 M_Mo_mostWorth := Or.inl (zmem6 (i := 178) rfl rfl)
theorem l_Mo_265 : ZLk "ApartGamesModel" 265 M_Mo_laysFirst := Or.inl (zmem6 (i := 182) rfl rfl)
theorem l_Mo_268 : ZLk "ApartGamesModel" 268 M_Mo_reached := Or.inl (zmem6 (i := 186) rfl rfl)
theorem l_Mo_256 : ZLk "ApartGamesModel" 256 M_Mo_laysBy := Or.inl (zmem6 (i := 190) rfl rfl)
theorem l_Mo_245 : ZLk "ApartGamesModel" 245 M_Mo_seen := Or.inl (zmem6 (i := 194) rfl rfl)
theorem l_Mo_249 : ZLk "ApartGamesModel" 249 M_Mo_weightSeen := Or.inl (zmem6 (i := 198) rfl rfl)
theorem l_Mo_259 : ZLk "ApartGamesModel" 259 M_Mo_bestBy := Or.inl (zmem6 (i := 202) rfl rfl)
theorem l_Mo_253 : ZLk "ApartGamesModel" 253 M_Math_max := Or.inl (zmem6 (i := 206) rfl rfl)
theorem l_Mo_262 : ZLk "ApartGamesModel" 262 M_Mo_worstBy := Or.inl (zmem6 (i := 207) rfl rfl)
theorem l_Mo_272 : ZLk "ApartGamesModel" 272 M_Mo_goesOn := Or.inl (zmem6 (i := 211) rfl rfl)
theorem l_Mo_284 : ZLk "ApartGamesModel" 284 M_Mo_allWeights := Or.inl (zmem6 (i := 215) rfl rfl)
theorem l_Mo_287 : ZLk "ApartGamesModel" 287 M_Mo_leastWorth := Or.inl (zmem6 (i := 219) rfl rfl)
theorem l_Mo_290 : ZLk "ApartGamesModel" 290 M_Mo_sureOf := Or.inl (zmem6 (i := 223) rfl rfl)
theorem l_Mo_278 : ZLk "ApartGamesModel" 278 M_Mo_toldOf := Or.inl (zmem6 (i := 227) rfl rfl)
theorem l_Law_98 : ZLk "ApartGamesLaw" 98 M_Mo_sure := Or.inl (zmem6 (i := 231) rfl rfl)
theorem l_Law_102 : ZLk "ApartGamesLaw" 102 M_Mo_play := Or.inl (zmem6 (i := 235) rfl rfl)
theorem l_Mo_293 : ZLk "ApartGamesModel" 293 M_Mo_worthNow := Or.inl (zmem6 (i := 239) rfl rfl)
theorem l_Law_106 : ZLk "ApartGamesLaw" 106 M_Mo_hangs := Or.inl (zmem7 (i := 3) rfl rfl)
theorem l_Law_110 : ZLk "ApartGamesLaw" 110 M_Mo_reply := Or.inl (zmem7 (i := 7) rfl rfl)
theorem l_Mo_296 : ZLk "ApartGamesModel" 296 M_Mo_replies := Or.inl (zmem7 (i := 11) rfl rfl)
theorem l_Law_115 : ZLk "ApartGamesLaw" 115 M_Mo_bests := Or.inl (zmem7 (i := 15) rfl rfl)
theorem l_Mo_303 : ZLk "ApartGamesModel" 303 M_Mo_allWays := Or.inl (zmem7 (i := 19) rfl rfl)
theorem l_Mo_299 : ZLk "ApartGamesModel" 299 M_Mo_ways := Or.inl (zmem7 (i := 23) rfl rfl)
theorem l_Law_124 : ZLk "ApartGamesLaw" 124 M_Mo_lost := Or.inl (zmem7 (i := 28) rfl rfl)
theorem l_Law_119 : ZLk "ApartGamesLaw" 119 M_Mo_best := Or.inl (zmem7 (i := 32) rfl rfl)
theorem l_Mo_308 : ZLk "ApartGamesModel" 308 M_Mo_laysBest := Or.inl (zmem7 (i := 36) rfl rfl)
theorem l_Law_129 : ZLk "ApartGamesLaw" 129 M_Mo_mean := Or.inl (zmem7 (i := 40) rfl rfl)
theorem l_Mo_312 : ZLk "ApartGamesModel" 312 M_Mo_common := Or.inl (zmem7 (i := 44) rfl rfl)
theorem l_Law_133 : ZLk "ApartGamesLaw" 133 M_Mo_talk := Or.inl (zmem7 (i := 47) rfl rfl)
theorem l_Mo_316 : ZLk "ApartGamesModel" 316 M_Mo_toldWorth := Or.inl (zmem7 (i := 51) rfl rfl)
theorem l_Law_137 : ZLk "ApartGamesLaw" 137 M_Mo_without := Or.inl (zmem7 (i := 55) rfl rfl)
theorem l_Mo_319 : ZLk "ApartGamesModel" 319 M_Mo_mostWithout := Or.inl (zmem7 (i := 59) rfl rfl)
theorem l_Law_153 : ZLk "ApartGamesLaw" 153 M_Mo_cut := Or.inl (zmem7 (i := 63) rfl rfl)
theorem l_Law_141 : ZLk "ApartGamesLaw" 141 M_Mo_lesser := Or.inl (zmem7 (i := 67) rfl rfl)
theorem l_Law_145 : ZLk "ApartGamesLaw" 145 M_Mo_same := Or.inl (zmem7 (i := 71) rfl rfl)
theorem l_Law_149 : ZLk "ApartGamesLaw" 149 M_Mo_climb := Or.inl (zmem7 (i := 75) rfl rfl)
theorem l_Law_157 : ZLk "ApartGamesLaw" 157 M_Mo_parts := Or.inl (zmem7 (i := 80) rfl rfl)
theorem l_Mo_326 : ZLk "ApartGamesModel" 326 M_Mo_laysParts := Or.inl (zmem7 (i := 85) rfl rfl)
theorem l_Law_161 : ZLk "ApartGamesLaw" 161 M_Mo_sign_2 := Or.inl (zmem7 (i := 89) rfl rfl)
theorem l_Mo_329 : ZLk "ApartGamesModel" 329 M_Mo_signOf := Or.inl (zmem7 (i := 93) rfl rfl)
theorem l_Law_165 : ZLk "ApartGamesLaw" 165 M_Mo_bias := Or.inl (zmem7 (i := 97) rfl rfl)
theorem l_Mo_332 : ZLk "ApartGamesModel" 332 M_Mo_isParityGame := Or.inl (zmem7 (i := 101) rfl rfl)
theorem l_Mo_335 : ZLk "ApartGamesModel" 335 M_Mo_squareOf := Or.inl (zmem7 (i := 105) rfl rfl)
theorem l_Law_169 : ZLk "ApartGamesLaw" 169 M_Mo_twice := Or.inl (zmem7 (i := 109) rfl rfl)
theorem l_Mo_347 : ZLk "ApartGamesModel" 347 M_Mo_pairRows := Or.inl (zmem7 (i := 113) rfl rfl)
theorem l_Mo_351 : ZLk "ApartGamesModel" 351 M_Mo_laysWon := Or.inl (zmem7 (i := 118) rfl rfl)
theorem l_Mo_340 : ZLk "ApartGamesModel" 340 M_Mo_wonPlace := Or.inl (zmem7 (i := 122) rfl rfl)
theorem l_Mo_343 : ZLk "ApartGamesModel" 343 M_Mo_wonAt := Or.inl (zmem7 (i := 125) rfl rfl)
theorem l_Mo_355 : ZLk "ApartGamesModel" 355 M_Mo_pairWorth := Or.inl (zmem7 (i := 129) rfl rfl)
theorem l_Law_173 : ZLk "ApartGamesLaw" 173 M_Mo_product := Or.inl (zmem7 (i := 133) rfl rfl)
theorem l_Mo_358 : ZLk "ApartGamesModel" 358 M_Math_abs := Or.inl (zmem7 (i := 137) rfl rfl)
theorem l_Law_177 : ZLk "ApartGamesLaw" 177 M_Mo_boxed := Or.inl (zmem7 (i := 140) rfl rfl)
theorem l_Mo_364 : ZLk "ApartGamesModel" 364 M_Mo_boxWorth := Or.inl (zmem7 (i := 144) rfl rfl)
theorem l_Mo_367 : ZLk "ApartGamesModel" 367 M_Mo_isWhole := Or.inl (zmem7 (i := 148) rfl rfl)
theorem l_Mo_361 : ZLk "ApartGamesModel" 361 M_Mo_givenAt := Or.inl (zmem7 (i := 152) rfl rfl)
theorem l_Mo_370 : ZLk "ApartGamesModel" 370 M_Mo_signals := Or.inl (zmem7 (i := 156) rfl rfl)
theorem l_Law_181 : ZLk "ApartGamesLaw" 181 M_Mo_marginal := Or.inl (zmem7 (i := 160) rfl rfl)
theorem l_Law_185 : ZLk "ApartGamesLaw" 185 M_Mo_symmetries := Or.inl (zmem7 (i := 164) rfl rfl)
theorem l_Mo_379 : ZLk "ApartGamesModel" 379 M_Mo_ordersOfAnn := Or.inl (zmem7 (i := 168) rfl rfl)
theorem l_Mo_376 : ZLk "ApartGamesModel" 376 M_Mo_ordersOfBen := Or.inl (zmem7 (i := 172) rfl rfl)
theorem l_Mo_373 : ZLk "ApartGamesModel" 373 M_Mo_isAlike := Or.inl (zmem7 (i := 176) rfl rfl)
theorem l_Law_189 : ZLk "ApartGamesLaw" 189 M_Mo_letter := Or.inl (zmem7 (i := 180) rfl rfl)
theorem l_Mo_410 : ZLk "ApartGamesModel" 410 M_Mo_writesAll := Or.inl (zmem7 (i := 184) rfl rfl)
theorem l_Mo_398 : ZLk "ApartGamesModel" 398 M_Mo_writesWord := Or.inl (zmem7 (i := 188) rfl rfl)
theorem l_Mo_391 : ZLk "ApartGamesModel" 391 M_Mo_writes := Or.inl (zmem7 (i := 192) rfl rfl)
theorem l_Mo_402 : ZLk "ApartGamesModel" 402 M_Mo_writesNumber := Or.inl (zmem7 (i := 196) rfl rfl)
theorem l_Mo_407 : ZLk "ApartGamesModel" 407 M_Mo_writesFours := Or.inl (zmem7 (i := 201) rfl rfl)
theorem l_Law_193 : ZLk "ApartGamesLaw" 193 M_Mo_count := Or.inl (zmem7 (i := 207) rfl rfl)
theorem g_Tape_11 : ZGet "ApartGames$Tape" 11 6 0 := ⟨R_Tape, T_Tape, 4, t_Tape, rfl, in_Tape, by decide, rfl, n_Tape, t_Tape_ok, Or.inl (zmem1 (i := 30) rfl rfl), Or.inr ⟨rfl, Or.inl ⟨_, rfl⟩⟩⟩
theorem g_Tape_15 : ZGet "ApartGames$Tape" 15 6 1 := ⟨R_Tape, T_Tape, 4, t_Tape, rfl, in_Tape, by decide, rfl, n_Tape, t_Tape_ok, Or.inl (zmem1 (i := 31) rfl rfl), Or.inl ⟨rfl, rfl⟩⟩
theorem g_Ap_77 : ZGet "ApartGames" 77 6 1 := ⟨R_Tape, T_Tape, 4, t_Tape, rfl, in_Tape, by decide, rfl, n_Tape, t_Tape_ok, Or.inr ⟨"ApartGames", List.mem_of_getElem? (i := 0) rfl⟩, Or.inl ⟨rfl, rfl⟩⟩
theorem g_Tape_19 : ZGet "ApartGames$Tape" 19 6 2 := ⟨R_Tape, T_Tape, 4, t_Tape, rfl, in_Tape, by decide, rfl, n_Tape, t_Tape_ok, Or.inl (zmem1 (i := 33) rfl rfl), Or.inl ⟨rfl, rfl⟩⟩
theorem g_Tape_22 : ZGet "ApartGames$Tape" 22 6 3 := ⟨R_Tape, T_Tape, 4, t_Tape, rfl, in_Tape, by decide, rfl, n_Tape, t_Tape_ok, Or.inl (zmem1 (i := 34) rfl rfl), Or.inl ⟨rfl, rfl⟩⟩
theorem g_Game_11 : ZGet "ApartGames$Game" 11 1 0 := ⟨R_Game, T_Game, 7, t_Game, rfl, in_Game, by decide, rfl, n_Game, t_Game_ok, Or.inl (zmem1 (i := 58) rfl rfl), Or.inl ⟨rfl, rfl⟩⟩
theorem g_Scribe_33 : ZGet "ApartGames$Scribe" 33 1 0 := ⟨R_Game, T_Game, 7, t_Game, rfl, in_Game, by decide, rfl, n_Game, t_Game_ok, Or.inr ⟨"ApartGames", List.mem_of_getElem? (i := 1) rfl⟩, Or.inl ⟨rfl, rfl⟩⟩
theorem g_Shape_31 : ZGet "ApartGames$Shape" 31 1 0 := ⟨R_Game, T_Game, 7, t_Game, rfl, in_Game, by decide, rfl, n_Game, t_Game_ok, Or.inr ⟨"ApartGames", List.mem_of_getElem? (i := 2) rfl⟩, Or.inl ⟨rfl, rfl⟩⟩
theorem g_Ap_90 : ZGet "ApartGames" 90 1 0 := ⟨R_Game, T_Game, 7, t_Game, rfl, in_Game, by decide, rfl, n_Game, t_Game_ok, Or.inr ⟨"ApartGames", List.mem_of_getElem? (i := 3) rfl⟩, Or.inl ⟨rfl, rfl⟩⟩
theorem g_Table_71 : ZGet "ApartGames$Table" 71 1 0 := ⟨R_Game, T_Game, 7, t_Game, rfl, in_Game, by decide, rfl, n_Game, t_Game_ok, Or.inr ⟨"ApartGames", List.mem_of_getElem? (i := 4) rfl⟩, Or.inl ⟨rfl, rfl⟩⟩
theorem g_Tape_63 : ZGet "ApartGames$Tape" 63 1 0 := ⟨R_Game, T_Game, 7, t_Game, rfl, in_Game, by decide, rfl, n_Game, t_Game_ok, Or.inr ⟨"ApartGames", List.mem_of_getElem? (i := 5) rfl⟩, Or.inl ⟨rfl, rfl⟩⟩
theorem g_Duo_47 : ZGet "ApartGames$Duo" 47 1 0 := ⟨R_Game, T_Game, 7, t_Game, rfl, in_Game, by decide, rfl, n_Game, t_Game_ok, Or.inr ⟨"ApartGames", List.mem_of_getElem? (i := 6) rfl⟩, Or.inl ⟨rfl, rfl⟩⟩
theorem g_Game_15 : ZGet "ApartGames$Game" 15 1 1 := ⟨R_Game, T_Game, 7, t_Game, rfl, in_Game, by decide, rfl, n_Game, t_Game_ok, Or.inl (zmem1 (i := 65) rfl rfl), Or.inl ⟨rfl, rfl⟩⟩
theorem g_Scribe_40 : ZGet "ApartGames$Scribe" 40 1 1 := ⟨R_Game, T_Game, 7, t_Game, rfl, in_Game, by decide, rfl, n_Game, t_Game_ok, Or.inr ⟨"ApartGames", List.mem_of_getElem? (i := 7) rfl⟩, Or.inl ⟨rfl, rfl⟩⟩
theorem g_Shape_37 : ZGet "ApartGames$Shape" 37 1 1 := ⟨R_Game, T_Game, 7, t_Game, rfl, in_Game, by decide, rfl, n_Game, t_Game_ok, Or.inr ⟨"ApartGames", List.mem_of_getElem? (i := 8) rfl⟩, Or.inl ⟨rfl, rfl⟩⟩
theorem g_Table_77 : ZGet "ApartGames$Table" 77 1 1 := ⟨R_Game, T_Game, 7, t_Game, rfl, in_Game, by decide, rfl, n_Game, t_Game_ok, Or.inr ⟨"ApartGames", List.mem_of_getElem? (i := 9) rfl⟩, Or.inl ⟨rfl, rfl⟩⟩
theorem g_Tape_66 : ZGet "ApartGames$Tape" 66 1 1 := ⟨R_Game, T_Game, 7, t_Game, rfl, in_Game, by decide, rfl, n_Game, t_Game_ok, Or.inr ⟨"ApartGames", List.mem_of_getElem? (i := 10) rfl⟩, Or.inl ⟨rfl, rfl⟩⟩
theorem g_Duo_88 : ZGet "ApartGames$Duo" 88 1 1 := ⟨R_Game, T_Game, 7, t_Game, rfl, in_Game, by decide, rfl, n_Game, t_Game_ok, Or.inr ⟨"ApartGames", List.mem_of_getElem? (i := 11) rfl⟩, Or.inl ⟨rfl, rfl⟩⟩
theorem g_Ap_319 : ZGet "ApartGames" 319 1 1 := ⟨R_Game, T_Game, 7, t_Game, rfl, in_Game, by decide, rfl, n_Game, t_Game_ok, Or.inr ⟨"ApartGames", List.mem_of_getElem? (i := 12) rfl⟩, Or.inl ⟨rfl, rfl⟩⟩
theorem g_Game_18 : ZGet "ApartGames$Game" 18 1 2 := ⟨R_Game, T_Game, 7, t_Game, rfl, in_Game, by decide, rfl, n_Game, t_Game_ok, Or.inl (zmem1 (i := 72) rfl rfl), Or.inl ⟨rfl, rfl⟩⟩
theorem g_Scribe_43 : ZGet "ApartGames$Scribe" 43 1 2 := ⟨R_Game, T_Game, 7, t_Game, rfl, in_Game, by decide, rfl, n_Game, t_Game_ok, Or.inr ⟨"ApartGames", List.mem_of_getElem? (i := 13) rfl⟩, Or.inl ⟨rfl, rfl⟩⟩
theorem g_Table_74 : ZGet "ApartGames$Table" 74 1 2 := ⟨R_Game, T_Game, 7, t_Game, rfl, in_Game, by decide, rfl, n_Game, t_Game_ok, Or.inr ⟨"ApartGames", List.mem_of_getElem? (i := 14) rfl⟩, Or.inl ⟨rfl, rfl⟩⟩
theorem g_Shape_64 : ZGet "ApartGames$Shape" 64 1 2 := ⟨R_Game, T_Game, 7, t_Game, rfl, in_Game, by decide, rfl, n_Game, t_Game_ok, Or.inr ⟨"ApartGames", List.mem_of_getElem? (i := 15) rfl⟩, Or.inl ⟨rfl, rfl⟩⟩
theorem g_Tape_87 : ZGet "ApartGames$Tape" 87 1 2 := ⟨R_Game, T_Game, 7, t_Game, rfl, in_Game, by decide, rfl, n_Game, t_Game_ok, Or.inr ⟨"ApartGames", List.mem_of_getElem? (i := 16) rfl⟩, Or.inl ⟨rfl, rfl⟩⟩
theorem g_Ap_239 : ZGet "ApartGames" 239 1 2 := ⟨R_Game, T_Game, 7, t_Game, rfl, in_Game, by decide, rfl, n_Game, t_Game_ok, Or.inr ⟨"ApartGames", List.mem_of_getElem? (i := 17) rfl⟩, Or.inl ⟨rfl, rfl⟩⟩
theorem g_Game_21 : ZGet "ApartGames$Game" 21 1 3 := ⟨R_Game, T_Game, 7, t_Game, rfl, in_Game, by decide, rfl, n_Game, t_Game_ok, Or.inl (zmem1 (i := 78) rfl rfl), Or.inl ⟨rfl, rfl⟩⟩
theorem g_Scribe_46 : ZGet "ApartGames$Scribe" 46 1 3 := ⟨R_Game, T_Game, 7, t_Game, rfl, in_Game, by decide, rfl, n_Game, t_Game_ok, Or.inr ⟨"ApartGames", List.mem_of_getElem? (i := 18) rfl⟩, Or.inl ⟨rfl, rfl⟩⟩
theorem g_Table_80 : ZGet "ApartGames$Table" 80 1 3 := ⟨R_Game, T_Game, 7, t_Game, rfl, in_Game, by decide, rfl, n_Game, t_Game_ok, Or.inr ⟨"ApartGames", List.mem_of_getElem? (i := 19) rfl⟩, Or.inl ⟨rfl, rfl⟩⟩
theorem g_Shape_67 : ZGet "ApartGames$Shape" 67 1 3 := ⟨R_Game, T_Game, 7, t_Game, rfl, in_Game, by decide, rfl, n_Game, t_Game_ok, Or.inr ⟨"ApartGames", List.mem_of_getElem? (i := 20) rfl⟩, Or.inl ⟨rfl, rfl⟩⟩
theorem g_Tape_90 : ZGet "ApartGames$Tape" 90 1 3 := ⟨R_Game, T_Game, 7, t_Game, rfl, in_Game, by decide, rfl, n_Game, t_Game_ok, Or.inr ⟨"ApartGames", List.mem_of_getElem? (i := 21) rfl⟩, Or.inl ⟨rfl, rfl⟩⟩
theorem g_Duo_59 : ZGet "ApartGames$Duo" 59 1 3 := ⟨R_Game, T_Game, 7, t_Game, rfl, in_Game, by decide, rfl, n_Game, t_Game_ok, Or.inr ⟨"ApartGames", List.mem_of_getElem? (i := 22) rfl⟩, Or.inl ⟨rfl, rfl⟩⟩
theorem g_Ap_242 : ZGet "ApartGames" 242 1 3 := ⟨R_Game, T_Game, 7, t_Game, rfl, in_Game, by decide, rfl, n_Game, t_Game_ok, Or.inr ⟨"ApartGames", List.mem_of_getElem? (i := 23) rfl⟩, Or.inl ⟨rfl, rfl⟩⟩
theorem g_Game_24 : ZGet "ApartGames$Game" 24 1 4 := ⟨R_Game, T_Game, 7, t_Game, rfl, in_Game, by decide, rfl, n_Game, t_Game_ok, Or.inl (zmem1 (i := 85) rfl rfl), Or.inr ⟨rfl, Or.inl ⟨_, rfl⟩⟩⟩
theorem g_Scribe_68 : ZGet "ApartGames$Scribe" 68 1 4 := ⟨R_Game, T_Game, 7, t_Game, rfl, in_Game, by decide, rfl, n_Game, t_Game_ok, Or.inr ⟨"ApartGames", List.mem_of_getElem? (i := 24) rfl⟩, Or.inr ⟨rfl, Or.inl ⟨_, rfl⟩⟩⟩
theorem g_Shape_40 : ZGet "ApartGames$Shape" 40 1 4 := ⟨R_Game, T_Game, 7, t_Game, rfl, in_Game, by decide, rfl, n_Game, t_Game_ok, Or.inr ⟨"ApartGames", List.mem_of_getElem? (i := 25) rfl⟩, Or.inr ⟨rfl, Or.inl ⟨_, rfl⟩⟩⟩
theorem g_Ap_101 : ZGet "ApartGames" 101 1 4 := ⟨R_Game, T_Game, 7, t_Game, rfl, in_Game, by decide, rfl, n_Game, t_Game_ok, Or.inr ⟨"ApartGames", List.mem_of_getElem? (i := 26) rfl⟩, Or.inr ⟨rfl, Or.inl ⟨_, rfl⟩⟩⟩
theorem g_Table_87 : ZGet "ApartGames$Table" 87 1 4 := ⟨R_Game, T_Game, 7, t_Game, rfl, in_Game, by decide, rfl, n_Game, t_Game_ok, Or.inr ⟨"ApartGames", List.mem_of_getElem? (i := 27) rfl⟩, Or.inr ⟨rfl, Or.inl ⟨_, rfl⟩⟩⟩
theorem g_Tape_80 : ZGet "ApartGames$Tape" 80 1 4 := ⟨R_Game, T_Game, 7, t_Game, rfl, in_Game, by decide, rfl, n_Game, t_Game_ok, Or.inr ⟨"ApartGames", List.mem_of_getElem? (i := 28) rfl⟩, Or.inr ⟨rfl, Or.inl ⟨_, rfl⟩⟩⟩
theorem g_Game_28 : ZGet "ApartGames$Game" 28 1 5 := ⟨R_Game, T_Game, 7, t_Game, rfl, in_Game, by decide, rfl, n_Game, t_Game_ok, Or.inl (zmem1 (i := 91) rfl rfl), Or.inr ⟨rfl, Or.inl ⟨_, rfl⟩⟩⟩
theorem g_Scribe_55 : ZGet "ApartGames$Scribe" 55 1 5 := ⟨R_Game, T_Game, 7, t_Game, rfl, in_Game, by decide, rfl, n_Game, t_Game_ok, Or.inr ⟨"ApartGames", List.mem_of_getElem? (i := 29) rfl⟩, Or.inr ⟨rfl, Or.inl ⟨_, rfl⟩⟩⟩
theorem g_Ap_117 : ZGet "ApartGames" 117 1 5 := ⟨R_Game, T_Game, 7, t_Game, rfl, in_Game, by decide, rfl, n_Game, t_Game_ok, Or.inr ⟨"ApartGames", List.mem_of_getElem? (i := 30) rfl⟩, Or.inr ⟨rfl, Or.inl ⟨_, rfl⟩⟩⟩
theorem g_Table_94 : ZGet "ApartGames$Table" 94 1 5 := ⟨R_Game, T_Game, 7, t_Game, rfl, in_Game, by decide, rfl, n_Game, t_Game_ok, Or.inr ⟨"ApartGames", List.mem_of_getElem? (i := 31) rfl⟩, Or.inr ⟨rfl, Or.inl ⟨_, rfl⟩⟩⟩
theorem g_Shape_70 : ZGet "ApartGames$Shape" 70 1 5 := ⟨R_Game, T_Game, 7, t_Game, rfl, in_Game, by decide, rfl, n_Game, t_Game_ok, Or.inr ⟨"ApartGames", List.mem_of_getElem? (i := 32) rfl⟩, Or.inr ⟨rfl, Or.inl ⟨_, rfl⟩⟩⟩
theorem g_Tape_100 : ZGet "ApartGames$Tape" 100 1 5 := ⟨R_Game, T_Game, 7, t_Game, rfl, in_Game, by decide, rfl, n_Game, t_Game_ok, Or.inr ⟨"ApartGames", List.mem_of_getElem? (i := 33) rfl⟩, Or.inr ⟨rfl, Or.inl ⟨_, rfl⟩⟩⟩
theorem g_Game_31 : ZGet "ApartGames$Game" 31 1 6 := ⟨R_Game, T_Game, 7, t_Game, rfl, in_Game, by decide, rfl, n_Game, t_Game_ok, Or.inl (zmem1 (i := 97) rfl rfl), Or.inr ⟨rfl, Or.inl ⟨_, rfl⟩⟩⟩
theorem g_Scribe_65 : ZGet "ApartGames$Scribe" 65 1 6 := ⟨R_Game, T_Game, 7, t_Game, rfl, in_Game, by decide, rfl, n_Game, t_Game_ok, Or.inr ⟨"ApartGames", List.mem_of_getElem? (i := 34) rfl⟩, Or.inr ⟨rfl, Or.inl ⟨_, rfl⟩⟩⟩
theorem g_Tape_97 : ZGet "ApartGames$Tape" 97 1 6 := ⟨R_Game, T_Game, 7, t_Game, rfl, in_Game, by decide, rfl, n_Game, t_Game_ok, Or.inr ⟨"ApartGames", List.mem_of_getElem? (i := 35) rfl⟩, Or.inr ⟨rfl, Or.inl ⟨_, rfl⟩⟩⟩
theorem g_Ap_154 : ZGet "ApartGames" 154 1 6 := ⟨R_Game, T_Game, 7, t_Game, rfl, in_Game, by decide, rfl, n_Game, t_Game_ok, Or.inr ⟨"ApartGames", List.mem_of_getElem? (i := 36) rfl⟩, Or.inr ⟨rfl, Or.inl ⟨_, rfl⟩⟩⟩
theorem g_Duo_91 : ZGet "ApartGames$Duo" 91 1 6 := ⟨R_Game, T_Game, 7, t_Game, rfl, in_Game, by decide, rfl, n_Game, t_Game_ok, Or.inr ⟨"ApartGames", List.mem_of_getElem? (i := 37) rfl⟩, Or.inr ⟨rfl, Or.inl ⟨_, rfl⟩⟩⟩
theorem g_Past_10 : ZGet "ApartGames$Past" 10 2 0 := ⟨R_Past, T_Past, 3, t_Past, rfl, in_Past, by decide, rfl, n_Past, t_Past_ok, Or.inl (zmem1 (i := 117) rfl rfl), Or.inr ⟨rfl, Or.inl ⟨_, rfl⟩⟩⟩
theorem g_Past_16 : ZGet "ApartGames$Past" 16 2 1 := ⟨R_Past, T_Past, 3, t_Past, rfl, in_Past, by decide, rfl, n_Past, t_Past_ok, Or.inl (zmem1 (i := 118) rfl rfl), Or.inl ⟨rfl, rfl⟩⟩
theorem g_Past_20 : ZGet "ApartGames$Past" 20 2 2 := ⟨R_Past, T_Past, 3, t_Past, rfl, in_Past, by decide, rfl, n_Past, t_Past_ok, Or.inl (zmem1 (i := 119) rfl rfl), Or.inl ⟨rfl, rfl⟩⟩
theorem g_Ap_175 : ZGet "ApartGames" 175 2 2 := ⟨R_Past, T_Past, 3, t_Past, rfl, in_Past, by decide, rfl, n_Past, t_Past_ok, Or.inr ⟨"ApartGames", List.mem_of_getElem? (i := 38) rfl⟩, Or.inl ⟨rfl, rfl⟩⟩
theorem g_Table_9 : ZGet "ApartGames$Table" 9 5 0 := ⟨R_Table, T_Table, 12, t_Table, rfl, in_Table, by decide, rfl, n_Table, t_Table_ok, Or.inl (zmem1 (i := 134) rfl rfl), Or.inl ⟨rfl, rfl⟩⟩
theorem g_Table_15 : ZGet "ApartGames$Table" 15 5 1 := ⟨R_Table, T_Table, 12, t_Table, rfl, in_Table, by decide, rfl, n_Table, t_Table_ok, Or.inl (zmem1 (i := 135) rfl rfl), Or.inl ⟨rfl, rfl⟩⟩
theorem g_Table_18 : ZGet "ApartGames$Table" 18 5 2 := ⟨R_Table, T_Table, 12, t_Table, rfl, in_Table, by decide, rfl, n_Table, t_Table_ok, Or.inl (zmem1 (i := 136) rfl rfl), Or.inl ⟨rfl, rfl⟩⟩
theorem g_Table_21 : ZGet "ApartGames$Table" 21 5 3 := ⟨R_Table, T_Table, 12, t_Table, rfl, in_Table, by decide, rfl, n_Table, t_Table_ok, Or.inl (zmem1 (i := 137) rfl rfl), Or.inl ⟨rfl, rfl⟩⟩
theorem g_Table_24 : ZGet "ApartGames$Table" 24 5 4 := ⟨R_Table, T_Table, 12, t_Table, rfl, in_Table, by decide, rfl, n_Table, t_Table_ok, Or.inl (zmem1 (i := 138) rfl rfl), Or.inl ⟨rfl, rfl⟩⟩
theorem g_Table_27 : ZGet "ApartGames$Table" 27 5 5 := ⟨R_Table, T_Table, 12, t_Table, rfl, in_Table, by decide, rfl, n_Table, t_Table_ok, Or.inl (zmem1 (i := 139) rfl rfl), Or.inr ⟨rfl, Or.inl ⟨_, rfl⟩⟩⟩
theorem g_Table_31 : ZGet "ApartGames$Table" 31 5 6 := ⟨R_Table, T_Table, 12, t_Table, rfl, in_Table, by decide, rfl, n_Table, t_Table_ok, Or.inl (zmem1 (i := 140) rfl rfl), Or.inr ⟨rfl, Or.inl ⟨_, rfl⟩⟩⟩
theorem g_Table_34 : ZGet "ApartGames$Table" 34 5 7 := ⟨R_Table, T_Table, 12, t_Table, rfl, in_Table, by decide, rfl, n_Table, t_Table_ok, Or.inl (zmem1 (i := 141) rfl rfl), Or.inr ⟨rfl, Or.inl ⟨_, rfl⟩⟩⟩
theorem g_Table_37 : ZGet "ApartGames$Table" 37 5 8 := ⟨R_Table, T_Table, 12, t_Table, rfl, in_Table, by decide, rfl, n_Table, t_Table_ok, Or.inl (zmem1 (i := 142) rfl rfl), Or.inr ⟨rfl, Or.inl ⟨_, rfl⟩⟩⟩
theorem g_Table_41 : ZGet "ApartGames$Table" 41 5 9 := ⟨R_Table, T_Table, 12, t_Table, rfl, in_Table, by decide, rfl, n_Table, t_Table_ok, Or.inl (zmem1 (i := 143) rfl rfl), Or.inr ⟨rfl, Or.inl ⟨_, rfl⟩⟩⟩
theorem g_Table_44 : ZGet "ApartGames$Table" 44 5 10 := ⟨R_Table, T_Table, 12, t_Table, rfl, in_Table, by decide, rfl, n_Table, t_Table_ok, Or.inl (zmem1 (i := 144) rfl rfl), Or.inr ⟨rfl, Or.inl ⟨_, rfl⟩⟩⟩
theorem g_Table_47 : ZGet "ApartGames$Table" 47 5 11 := ⟨R_Table, T_Table, 12, t_Table, rfl, in_Table, by decide, rfl, n_Table, t_Table_ok, Or.inl (zmem1 (i := 145) rfl rfl), Or.inl ⟨rfl, rfl⟩⟩
theorem g_Duo_9 : ZGet "ApartGames$Duo" 9 0 0 := ⟨R_Duo, T_Duo, 3, t_Duo, rfl, in_Duo, by decide, rfl, n_Duo, t_Duo_ok, Or.inl (zmem1 (i := 178) rfl rfl), Or.inr ⟨rfl, Or.inl ⟨_, rfl⟩⟩⟩
theorem g_Duo_15 : ZGet "ApartGames$Duo" 15 0 1 := ⟨R_Duo, T_Duo, 3, t_Duo, rfl, in_Duo, by decide, rfl, n_Duo, t_Duo_ok, Or.inl (zmem1 (i := 179) rfl rfl), Or.inr ⟨rfl, Or.inl ⟨_, rfl⟩⟩⟩
theorem g_Duo_18 : ZGet "ApartGames$Duo" 18 0 2 := ⟨R_Duo, T_Duo, 3, t_Duo, rfl, in_Duo, by decide, rfl, n_Duo, t_Duo_ok, Or.inl (zmem1 (i := 180) rfl rfl), Or.inr ⟨rfl, Or.inl ⟨_, rfl⟩⟩⟩
theorem g_Shape_9 : ZGet "ApartGames$Shape" 9 4 0 := ⟨R_Shape, T_Shape, 3, t_Shape, rfl, in_Shape, by decide, rfl, n_Shape, t_Shape_ok, Or.inl (zmem1 (i := 194) rfl rfl), Or.inr ⟨rfl, Or.inl ⟨_, rfl⟩⟩⟩
theorem g_Shape_15 : ZGet "ApartGames$Shape" 15 4 1 := ⟨R_Shape, T_Shape, 3, t_Shape, rfl, in_Shape, by decide, rfl, n_Shape, t_Shape_ok, Or.inl (zmem1 (i := 195) rfl rfl), Or.inr ⟨rfl, Or.inl ⟨_, rfl⟩⟩⟩
theorem g_Shape_18 : ZGet "ApartGames$Shape" 18 4 2 := ⟨R_Shape, T_Shape, 3, t_Shape, rfl, in_Shape, by decide, rfl, n_Shape, t_Shape_ok, Or.inl (zmem1 (i := 196) rfl rfl), Or.inr ⟨rfl, Or.inl ⟨_, rfl⟩⟩⟩
theorem g_Scribe_9 : ZGet "ApartGames$Scribe" 9 3 0 := ⟨R_Scribe, T_Scribe, 3, t_Scribe, rfl, in_Scribe, by decide, rfl, n_Scribe, t_Scribe_ok, Or.inl (zmem1 (i := 210) rfl rfl), Or.inl ⟨rfl, rfl⟩⟩
theorem g_Scribe_15 : ZGet "ApartGames$Scribe" 15 3 1 := ⟨R_Scribe, T_Scribe, 3, t_Scribe, rfl, in_Scribe, by decide, rfl, n_Scribe, t_Scribe_ok, Or.inl (zmem1 (i := 211) rfl rfl), Or.inl ⟨rfl, rfl⟩⟩
theorem g_Ap_316 : ZGet "ApartGames" 316 3 1 := ⟨R_Scribe, T_Scribe, 3, t_Scribe, rfl, in_Scribe, by decide, rfl, n_Scribe, t_Scribe_ok, Or.inr ⟨"ApartGames", List.mem_of_getElem? (i := 39) rfl⟩, Or.inl ⟨rfl, rfl⟩⟩
theorem g_Scribe_18 : ZGet "ApartGames$Scribe" 18 3 2 := ⟨R_Scribe, T_Scribe, 3, t_Scribe, rfl, in_Scribe, by decide, rfl, n_Scribe, t_Scribe_ok, Or.inl (zmem1 (i := 213) rfl rfl), Or.inl ⟨rfl, rfl⟩⟩
theorem g_Ap_10 : ZGet "ApartGames" 10 7 0 := ⟨R_Ap, T_Ap, 10, t_Ap, rfl, in_Ap, by decide, rfl, n_Ap, t_Ap_ok, Or.inl (zmem1 (i := 223) rfl rfl), Or.inr ⟨rfl, Or.inr ⟨_, rfl⟩⟩⟩
theorem g_Ap_19 : ZGet "ApartGames" 19 7 1 := ⟨R_Ap, T_Ap, 10, t_Ap, rfl, in_Ap, by decide, rfl, n_Ap, t_Ap_ok, Or.inl (zmem1 (i := 224) rfl rfl), Or.inr ⟨rfl, Or.inr ⟨_, rfl⟩⟩⟩
theorem g_Ap_26 : ZGet "ApartGames" 26 7 2 := ⟨R_Ap, T_Ap, 10, t_Ap, rfl, in_Ap, by decide, rfl, n_Ap, t_Ap_ok, Or.inl (zmem1 (i := 225) rfl rfl), Or.inr ⟨rfl, Or.inr ⟨_, rfl⟩⟩⟩
theorem g_Ap_33 : ZGet "ApartGames" 33 7 3 := ⟨R_Ap, T_Ap, 10, t_Ap, rfl, in_Ap, by decide, rfl, n_Ap, t_Ap_ok, Or.inl (zmem1 (i := 226) rfl rfl), Or.inr ⟨rfl, Or.inr ⟨_, rfl⟩⟩⟩
theorem g_Ap_40 : ZGet "ApartGames" 40 7 4 := ⟨R_Ap, T_Ap, 10, t_Ap, rfl, in_Ap, by decide, rfl, n_Ap, t_Ap_ok, Or.inl (zmem1 (i := 227) rfl rfl), Or.inr ⟨rfl, Or.inr ⟨_, rfl⟩⟩⟩
theorem g_Ap_47 : ZGet "ApartGames" 47 7 5 := ⟨R_Ap, T_Ap, 10, t_Ap, rfl, in_Ap, by decide, rfl, n_Ap, t_Ap_ok, Or.inl (zmem1 (i := 228) rfl rfl), Or.inr ⟨rfl, Or.inr ⟨_, rfl⟩⟩⟩
theorem g_Ap_54 : ZGet "ApartGames" 54 7 6 := ⟨R_Ap, T_Ap, 10, t_Ap, rfl, in_Ap, by decide, rfl, n_Ap, t_Ap_ok, Or.inl (zmem1 (i := 229) rfl rfl), Or.inr ⟨rfl, Or.inl ⟨_, rfl⟩⟩⟩
theorem g_Ap_58 : ZGet "ApartGames" 58 7 7 := ⟨R_Ap, T_Ap, 10, t_Ap, rfl, in_Ap, by decide, rfl, n_Ap, t_Ap_ok, Or.inl (zmem1 (i := 230) rfl rfl), Or.inl ⟨rfl, rfl⟩⟩
theorem g_Ap_62 : ZGet "ApartGames" 62 7 8 := ⟨R_Ap, T_Ap, 10, t_Ap, rfl, in_Ap, by decide, rfl, n_Ap, t_Ap_ok, Or.inl (zmem1 (i := 231) rfl rfl), Or.inr ⟨rfl, Or.inr ⟨_, rfl⟩⟩⟩
theorem g_Ap_66 : ZGet "ApartGames" 66 7 9 := ⟨R_Ap, T_Ap, 10, t_Ap, rfl, in_Ap, by decide, rfl, n_Ap, t_Ap_ok, Or.inl (zmem1 (i := 232) rfl rfl), Or.inr ⟨rfl, Or.inr ⟨_, rfl⟩⟩⟩
theorem g_Mo_9 : ZGet "ApartGamesModel" 9 8 0 := ⟨R_Mo, T_Mo, 26, t_Mo, rfl, in_Mo, by decide, rfl, n_Mo, t_Mo_ok, Or.inl (zmem5 (i := 112) rfl rfl), Or.inr ⟨rfl, Or.inl ⟨_, rfl⟩⟩⟩
theorem g_Mo_13 : ZGet "ApartGamesModel" 13 8 1 := ⟨R_Mo, T_Mo, 26, t_Mo, rfl, in_Mo, by decide, rfl, n_Mo, t_Mo_ok, Or.inl (zmem5 (i := 113) rfl rfl), Or.inr ⟨rfl, Or.inl ⟨_, rfl⟩⟩⟩
theorem g_Mo_16 : ZGet "ApartGamesModel" 16 8 2 := ⟨R_Mo, T_Mo, 26, t_Mo, rfl, in_Mo, by decide, rfl, n_Mo, t_Mo_ok, Or.inl (zmem5 (i := 114) rfl rfl), Or.inr ⟨rfl, Or.inl ⟨_, rfl⟩⟩⟩
theorem g_Mo_19 : ZGet "ApartGamesModel" 19 8 3 := ⟨R_Mo, T_Mo, 26, t_Mo, rfl, in_Mo, by decide, rfl, n_Mo, t_Mo_ok, Or.inl (zmem5 (i := 115) rfl rfl), Or.inr ⟨rfl, Or.inl ⟨_, rfl⟩⟩⟩
theorem g_Mo_22 : ZGet "ApartGamesModel" 22 8 4 := ⟨R_Mo, T_Mo, 26, t_Mo, rfl, in_Mo, by decide, rfl, n_Mo, t_Mo_ok, Or.inl (zmem5 (i := 116) rfl rfl), Or.inr ⟨rfl, Or.inl ⟨_, rfl⟩⟩⟩
theorem g_Mo_25 : ZGet "ApartGamesModel" 25 8 5 := ⟨R_Mo, T_Mo, 26, t_Mo, rfl, in_Mo, by decide, rfl, n_Mo, t_Mo_ok, Or.inl (zmem5 (i := 117) rfl rfl), Or.inr ⟨rfl, Or.inl ⟨_, rfl⟩⟩⟩
theorem g_Mo_160 : ZGet "ApartGamesModel" 160 8 6 := ⟨R_Mo, T_Mo, 26, t_Mo, rfl, in_Mo, by decide, rfl, n_Mo, t_Mo_ok, Or.inl (zmem5 (i := 118) rfl rfl), Or.inl ⟨rfl, rfl⟩⟩
theorem g_Mo_29 : ZGet "ApartGamesModel" 29 8 7 := ⟨R_Mo, T_Mo, 26, t_Mo, rfl, in_Mo, by decide, rfl, n_Mo, t_Mo_ok, Or.inl (zmem5 (i := 119) rfl rfl), Or.inr ⟨rfl, Or.inl ⟨_, rfl⟩⟩⟩
theorem g_Mo_64 : ZGet "ApartGamesModel" 64 8 8 := ⟨R_Mo, T_Mo, 26, t_Mo, rfl, in_Mo, by decide, rfl, n_Mo, t_Mo_ok, Or.inl (zmem5 (i := 120) rfl rfl), Or.inl ⟨rfl, rfl⟩⟩
theorem g_Mo_72 : ZGet "ApartGamesModel" 72 8 9 := ⟨R_Mo, T_Mo, 26, t_Mo, rfl, in_Mo, by decide, rfl, n_Mo, t_Mo_ok, Or.inl (zmem5 (i := 121) rfl rfl), Or.inl ⟨rfl, rfl⟩⟩
theorem g_Mo_79 : ZGet "ApartGamesModel" 79 8 10 := ⟨R_Mo, T_Mo, 26, t_Mo, rfl, in_Mo, by decide, rfl, n_Mo, t_Mo_ok, Or.inl (zmem5 (i := 122) rfl rfl), Or.inl ⟨rfl, rfl⟩⟩
theorem g_Mo_114 : ZGet "ApartGamesModel" 114 8 11 := ⟨R_Mo, T_Mo, 26, t_Mo, rfl, in_Mo, by decide, rfl, n_Mo, t_Mo_ok, Or.inl (zmem5 (i := 123) rfl rfl), Or.inl ⟨rfl, rfl⟩⟩
theorem g_Mo_33 : ZGet "ApartGamesModel" 33 8 12 := ⟨R_Mo, T_Mo, 26, t_Mo, rfl, in_Mo, by decide, rfl, n_Mo, t_Mo_ok, Or.inl (zmem5 (i := 124) rfl rfl), Or.inr ⟨rfl, Or.inl ⟨_, rfl⟩⟩⟩
theorem g_Mo_36 : ZGet "ApartGamesModel" 36 8 13 := ⟨R_Mo, T_Mo, 26, t_Mo, rfl, in_Mo, by decide, rfl, n_Mo, t_Mo_ok, Or.inl (zmem5 (i := 125) rfl rfl), Or.inr ⟨rfl, Or.inl ⟨_, rfl⟩⟩⟩
theorem g_Mo_235 : ZGet "ApartGamesModel" 235 8 14 := ⟨R_Mo, T_Mo, 26, t_Mo, rfl, in_Mo, by decide, rfl, n_Mo, t_Mo_ok, Or.inl (zmem5 (i := 126) rfl rfl), Or.inl ⟨rfl, rfl⟩⟩
theorem g_Mo_39 : ZGet "ApartGamesModel" 39 8 15 := ⟨R_Mo, T_Mo, 26, t_Mo, rfl, in_Mo, by decide, rfl, n_Mo, t_Mo_ok, Or.inl (zmem5 (i := 127) rfl rfl), Or.inr ⟨rfl, Or.inl ⟨_, rfl⟩⟩⟩
theorem g_Mo_275 : ZGet "ApartGamesModel" 275 8 16 := ⟨R_Mo, T_Mo, 26, t_Mo, rfl, in_Mo, by decide, rfl, n_Mo, t_Mo_ok, Or.inl (zmem5 (i := 128) rfl rfl), Or.inl ⟨rfl, rfl⟩⟩
theorem g_Mo_42 : ZGet "ApartGamesModel" 42 8 17 := ⟨R_Mo, T_Mo, 26, t_Mo, rfl, in_Mo, by decide, rfl, n_Mo, t_Mo_ok, Or.inl (zmem5 (i := 129) rfl rfl), Or.inr ⟨rfl, Or.inl ⟨_, rfl⟩⟩⟩
theorem g_Mo_45 : ZGet "ApartGamesModel" 45 8 18 := ⟨R_Mo, T_Mo, 26, t_Mo, rfl, in_Mo, by decide, rfl, n_Mo, t_Mo_ok, Or.inl (zmem5 (i := 130) rfl rfl), Or.inr ⟨rfl, Or.inl ⟨_, rfl⟩⟩⟩
theorem g_Mo_48 : ZGet "ApartGamesModel" 48 8 19 := ⟨R_Mo, T_Mo, 26, t_Mo, rfl, in_Mo, by decide, rfl, n_Mo, t_Mo_ok, Or.inl (zmem5 (i := 131) rfl rfl), Or.inr ⟨rfl, Or.inl ⟨_, rfl⟩⟩⟩
theorem g_Mo_51 : ZGet "ApartGamesModel" 51 8 20 := ⟨R_Mo, T_Mo, 26, t_Mo, rfl, in_Mo, by decide, rfl, n_Mo, t_Mo_ok, Or.inl (zmem5 (i := 132) rfl rfl), Or.inr ⟨rfl, Or.inl ⟨_, rfl⟩⟩⟩
theorem g_Mo_54 : ZGet "ApartGamesModel" 54 8 21 := ⟨R_Mo, T_Mo, 26, t_Mo, rfl, in_Mo, by decide, rfl, n_Mo, t_Mo_ok, Or.inl (zmem5 (i := 133) rfl rfl), Or.inr ⟨rfl, Or.inl ⟨_, rfl⟩⟩⟩
theorem g_Mo_57 : ZGet "ApartGamesModel" 57 8 22 := ⟨R_Mo, T_Mo, 26, t_Mo, rfl, in_Mo, by decide, rfl, n_Mo, t_Mo_ok, Or.inl (zmem5 (i := 134) rfl rfl), Or.inr ⟨rfl, Or.inl ⟨_, rfl⟩⟩⟩
theorem g_Mo_382 : ZGet "ApartGamesModel" 382 8 23 := ⟨R_Mo, T_Mo, 26, t_Mo, rfl, in_Mo, by decide, rfl, n_Mo, t_Mo_ok, Or.inl (zmem5 (i := 135) rfl rfl), Or.inl ⟨rfl, rfl⟩⟩
theorem g_Mo_385 : ZGet "ApartGamesModel" 385 8 24 := ⟨R_Mo, T_Mo, 26, t_Mo, rfl, in_Mo, by decide, rfl, n_Mo, t_Mo_ok, Or.inl (zmem5 (i := 136) rfl rfl), Or.inl ⟨rfl, rfl⟩⟩
theorem g_Mo_388 : ZGet "ApartGamesModel" 388 8 25 := ⟨R_Mo, T_Mo, 26, t_Mo, rfl, in_Mo, by decide, rfl, n_Mo, t_Mo_ok, Or.inl (zmem5 (i := 137) rfl rfl), Or.inl ⟨rfl, rfl⟩⟩
