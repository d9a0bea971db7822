/-! FACTS AND SMALL ROWS THAT THE TREES NAME -/
def zmax (x y : Int) : Int := if x < y then y else x
def zmin (x y : Int) : Int := if y < x then y else x
def zabs (x : Int) : Int := if 0 ≤ x then x else iw (-x)
def zwk : List ZV → List ZV → Prop
  | [], _ => True
  | _ :: _, [] => False
  | v :: r2, u :: r => (v.1 = 9 ∨ v = u) ∧ zwk r2 r
theorem zwk_of {l2 l : List ZV} (h : zwk l2 l) : ∀ (i : Nat) (v : ZV), l2[i]? = some v → v.1 = 9 ∨ l[i]? = some v := by
  induction l2 generalizing l with
  | nil => intro i v hi; simp at hi
  | cons w r2 ih =>
    cases l with
    | nil => exact h.elim
    | cons u r =>
      intro i v hi
      cases i with
      | zero =>
        simp at hi
        subst hi
        rcases h.1 with q | q
        · exact Or.inl q
        · exact Or.inr (by simp [q])
      | succ i => simpa using ih h.2 i v (by simpa using hi)
theorem y_init_Math : Cond.initialized "java/lang/Math" ∈ zWs := zmem1 (i := 14) rfl rfl
theorem y_init_Sys : Cond.initialized "java/lang/System" ∈ zWs := zmem1 (i := 15) rfl rfl
theorem y_st_max : Cond.static Lib.Math.max.name ∈ zWs := zmem3 (i := 72) rfl rfl
theorem y_cd_max : Cond.code Lib.Math.max.name Lib.Math.max.code 2 (some .int) ∈ zWs := zmem3 (i := 73) rfl rfl
theorem y_st_min : Cond.static Lib.Math.min.name ∈ zWs := zmem2 (i := 112) rfl rfl
theorem y_cd_min : Cond.code Lib.Math.min.name Lib.Math.min.code 2 (some .int) ∈ zWs := zmem2 (i := 113) rfl rfl
theorem y_st_abs : Cond.static Lib.Math.abs.name ∈ zWs := zmem7 (i := 138) rfl rfl
theorem y_cd_abs : Cond.code Lib.Math.abs.name Lib.Math.abs.code 1 (some .int) ∈ zWs := zmem7 (i := 139) rfl rfl
theorem y_cpn : Cond.native arraycopyName ∈ zWs := zmem2 (i := 192) rfl rfl
theorem y_cps : Cond.static arraycopyName ∈ zWs := zmem2 (i := 191) rfl rfl
theorem y_Ap_1 : Cond.methodLink "ApartGames" 1 Lib.objectInit ∈ zWs := zmem1 (i := 21) rfl rfl
theorem y_Tape_3 : Cond.methodLink "ApartGames$Tape" 3 Lib.objectInit ∈ zWs := zmem1 (i := 29) rfl rfl
theorem y_Past_1 : Cond.methodLink "ApartGames$Past" 1 Lib.objectInit ∈ zWs := zmem1 (i := 50) rfl rfl
theorem y_Game_5 : Cond.methodLink "ApartGames$Game" 5 Lib.objectInit ∈ zWs := zmem1 (i := 57) rfl rfl
theorem y_Table_3 : Cond.methodLink "ApartGames$Table" 3 Lib.objectInit ∈ zWs := zmem1 (i := 133) rfl rfl
theorem y_Duo_3 : Cond.methodLink "ApartGames$Duo" 3 Lib.objectInit ∈ zWs := zmem1 (i := 177) rfl rfl
theorem y_Shape_3 : Cond.methodLink "ApartGames$Shape" 3 Lib.objectInit ∈ zWs := zmem1 (i := 193) rfl rfl
theorem y_Scribe_3 : Cond.methodLink "ApartGames$Scribe" 3 Lib.objectInit ∈ zWs := zmem1 (i := 209) rfl rfl
theorem y_Tape_129 : Cond.methodLink "ApartGames$Tape" 129 Lib.Math.min.name ∈ zWs := zmem2 (i := 111) rfl rfl
theorem y_Game_34 : Cond.methodLink "ApartGames$Game" 34 arraycopyName ∈ zWs := zmem2 (i := 190) rfl rfl
theorem y_Past_27 : Cond.methodLink "ApartGames$Past" 27 Lib.Math.min.name ∈ zWs := zmem2 (i := 193) rfl rfl
theorem y_Duo_62 : Cond.methodLink "ApartGames$Duo" 62 Lib.Math.max.name ∈ zWs := zmem3 (i := 71) rfl rfl
theorem y_Table_119 : Cond.methodLink "ApartGames$Table" 119 Lib.Math.max.name ∈ zWs := zmem3 (i := 165) rfl rfl
theorem y_Table_124 : Cond.methodLink "ApartGames$Table" 124 Lib.Math.min.name ∈ zWs := zmem3 (i := 217) rfl rfl
theorem y_Duo_68 : Cond.methodLink "ApartGames$Duo" 68 Lib.Math.min.name ∈ zWs := zmem4 (i := 20) rfl rfl
theorem y_Duo_82 : Cond.methodLink "ApartGames$Duo" 82 arraycopyName ∈ zWs := zmem4 (i := 151) rfl rfl
theorem y_Shape_51 : Cond.methodLink "ApartGames$Shape" 51 Lib.Math.min.name ∈ zWs := zmem4 (i := 177) rfl rfl
theorem y_Shape_25 : Cond.methodLink "ApartGames$Shape" 25 Lib.Math.max.name ∈ zWs := zmem4 (i := 182) rfl rfl
theorem y_Mo_1 : Cond.methodLink "ApartGamesModel" 1 Lib.objectInit ∈ zWs := zmem5 (i := 111) rfl rfl
theorem y_Mo_117 : Cond.methodLink "ApartGamesModel" 117 Lib.Math.min.name ∈ zWs := zmem6 (i := 1) rfl rfl
theorem y_Mo_253 : Cond.methodLink "ApartGamesModel" 253 Lib.Math.max.name ∈ zWs := zmem6 (i := 206) rfl rfl
theorem y_Mo_358 : Cond.methodLink "ApartGamesModel" 358 Lib.Math.abs.name ∈ zWs := zmem7 (i := 137) rfl rfl
theorem y_obj1 : Cond.instanceMethod Lib.objectInit ∈ zWs := zmem1 (i := 22) rfl rfl
theorem y_obj2 : Cond.code Lib.objectInit ⟨#[0xb1]⟩ 1 none ∈ zWs := zmem1 (i := 23) rfl rfl
theorem z_Game_88 : Cond.constant "ApartGames$Game" 88 (Int32.ofInt 1103515245) ∈ zWs ∧ zin32 1103515245 := ⟨zmem3 (i := 89) rfl rfl, by decide, by decide⟩
theorem z_Ap_283 : Cond.constant "ApartGames" 283 (Int32.ofInt 70000) ∈ zWs ∧ zin32 70000 := ⟨zmem4 (i := 220) rfl rfl, by decide, by decide⟩
theorem z_Mo_238 : Cond.constant "ApartGamesModel" 238 (Int32.ofInt 1103515245) ∈ zWs ∧ zin32 1103515245 := ⟨zmem6 (i := 157) rfl rfl, by decide, by decide⟩
theorem z_Ap_223 : Cond.constantLong "ApartGames" 223 (Int64.ofInt (-1)) ∈ zWs ∧ zin64 (-1) := ⟨zmem4 (i := 39) rfl rfl, by decide, by decide⟩
theorem z_Mo_89 : Cond.constantLong "ApartGamesModel" 89 (Int64.ofInt 97) ∈ zWs ∧ zin64 97 := ⟨zmem5 (i := 220) rfl rfl, by decide, by decide⟩
theorem z_Mo_91 : Cond.constantLong "ApartGamesModel" 91 (Int64.ofInt 122) ∈ zWs ∧ zin64 122 := ⟨zmem5 (i := 221) rfl rfl, by decide, by decide⟩
theorem z_Mo_106 : Cond.constantLong "ApartGamesModel" 106 (Int64.ofInt 48) ∈ zWs ∧ zin64 48 := ⟨zmem5 (i := 239) rfl rfl, by decide, by decide⟩
theorem z_Mo_108 : Cond.constantLong "ApartGamesModel" 108 (Int64.ofInt 57) ∈ zWs ∧ zin64 57 := ⟨zmem6 (i := 0) rfl rfl, by decide, by decide⟩
theorem z_Mo_186 : Cond.constantLong "ApartGamesModel" 186 (Int64.ofInt 9) ∈ zWs ∧ zin64 9 := ⟨zmem6 (i := 54) rfl rfl, by decide, by decide⟩
theorem z_Mo_195 : Cond.constantLong "ApartGamesModel" 195 (Int64.ofInt 12) ∈ zWs ∧ zin64 12 := ⟨zmem6 (i := 79) rfl rfl, by decide, by decide⟩
theorem z_Mo_306 : Cond.constantLong "ApartGamesModel" 306 (Int64.ofInt (-1)) ∈ zWs ∧ zin64 (-1) := ⟨zmem7 (i := 27) rfl rfl, by decide, by decide⟩
theorem z_Mo_322 : Cond.constantLong "ApartGamesModel" 322 (Int64.ofInt 3) ∈ zWs ∧ zin64 3 := ⟨zmem7 (i := 79) rfl rfl, by decide, by decide⟩
theorem z_Mo_324 : Cond.constantLong "ApartGamesModel" 324 (Int64.ofInt 2) ∈ zWs ∧ zin64 2 := ⟨zmem7 (i := 84) rfl rfl, by decide, by decide⟩
theorem z_Mo_338 : Cond.constantLong "ApartGamesModel" 338 (Int64.ofInt 70000) ∈ zWs ∧ zin64 70000 := ⟨zmem7 (i := 117) rfl rfl, by decide, by decide⟩
theorem z_Tape_39 : ∃ tx, ("ApartGames$Tape", 39, tx, Int.toNat 0) ∈ zStr ∧ (0 : Int) ≤ 0 := ⟨"game", List.mem_of_getElem? (i := 0) rfl, by decide⟩
theorem z_Tape_107 : ∃ tx, ("ApartGames$Tape", 107, tx, Int.toNat 1) ∈ zStr ∧ (0 : Int) ≤ 1 := ⟨"weight", List.mem_of_getElem? (i := 1) rfl, by decide⟩
theorem z_Tape_109 : ∃ tx, ("ApartGames$Tape", 109, tx, Int.toNat 2) ∈ zStr ∧ (0 : Int) ≤ 2 := ⟨"win", List.mem_of_getElem? (i := 2) rfl, by decide⟩
theorem z_Tape_111 : ∃ tx, ("ApartGames$Tape", 111, tx, Int.toNat 3) ∈ zStr ∧ (0 : Int) ≤ 3 := ⟨"even", List.mem_of_getElem? (i := 3) rfl, by decide⟩
theorem z_Tape_113 : ∃ tx, ("ApartGames$Tape", 113, tx, Int.toNat 4) ∈ zStr ∧ (0 : Int) ≤ 4 := ⟨"odd", List.mem_of_getElem? (i := 4) rfl, by decide⟩
theorem z_Tape_115 : ∃ tx, ("ApartGames$Tape", 115, tx, Int.toNat 5) ∈ zStr ∧ (0 : Int) ≤ 5 := ⟨"alike", List.mem_of_getElem? (i := 5) rfl, by decide⟩
theorem z_Tape_117 : ∃ tx, ("ApartGames$Tape", 117, tx, Int.toNat 6) ∈ zStr ∧ (0 : Int) ≤ 6 := ⟨"unlike", List.mem_of_getElem? (i := 6) rfl, by decide⟩
theorem z_Tape_119 : ∃ tx, ("ApartGames$Tape", 119, tx, Int.toNat 7) ∈ zStr ∧ (0 : Int) ≤ 7 := ⟨"box", List.mem_of_getElem? (i := 7) rfl, by decide⟩
theorem z_Scribe_27 : ∃ tx, ("ApartGames$Scribe", 27, tx, Int.toNat 0) ∈ zStr ∧ (0 : Int) ≤ 0 := ⟨"game", List.mem_of_getElem? (i := 8) rfl, by decide⟩
theorem z_Scribe_75 : ∃ tx, ("ApartGames$Scribe", 75, tx, Int.toNat 8) ∈ zStr ∧ (0 : Int) ≤ 8 := ⟨";weight", List.mem_of_getElem? (i := 9) rfl, by decide⟩
theorem z_Scribe_53 : ∃ tx, ("ApartGames$Scribe", 53, tx, Int.toNat 9) ∈ zStr ∧ (0 : Int) ≤ 9 := ⟨";win", List.mem_of_getElem? (i := 10) rfl, by decide⟩
theorem z_Scribe_63 : ∃ tx, ("ApartGames$Scribe", 63, tx, Int.toNat 10) ∈ zStr ∧ (0 : Int) ≤ 10 := ⟨";box", List.mem_of_getElem? (i := 11) rfl, by decide⟩
theorem z_Mo_151 : ∃ tx, ("ApartGamesModel", 151, tx, Int.toNat 0) ∈ zStr ∧ (0 : Int) ≤ 0 := ⟨"game", List.mem_of_getElem? (i := 12) rfl, by decide⟩
theorem z_Mo_126 : ∃ tx, ("ApartGamesModel", 126, tx, Int.toNat 1) ∈ zStr ∧ (0 : Int) ≤ 1 := ⟨"weight", List.mem_of_getElem? (i := 13) rfl, by decide⟩
theorem z_Mo_132 : ∃ tx, ("ApartGamesModel", 132, tx, Int.toNat 2) ∈ zStr ∧ (0 : Int) ≤ 2 := ⟨"win", List.mem_of_getElem? (i := 14) rfl, by decide⟩
theorem z_Mo_134 : ∃ tx, ("ApartGamesModel", 134, tx, Int.toNat 3) ∈ zStr ∧ (0 : Int) ≤ 3 := ⟨"even", List.mem_of_getElem? (i := 15) rfl, by decide⟩
theorem z_Mo_136 : ∃ tx, ("ApartGamesModel", 136, tx, Int.toNat 4) ∈ zStr ∧ (0 : Int) ≤ 4 := ⟨"odd", List.mem_of_getElem? (i := 16) rfl, by decide⟩
theorem z_Mo_138 : ∃ tx, ("ApartGamesModel", 138, tx, Int.toNat 5) ∈ zStr ∧ (0 : Int) ≤ 5 := ⟨"alike", List.mem_of_getElem? (i := 17) rfl, by decide⟩
theorem z_Mo_140 : ∃ tx, ("ApartGamesModel", 140, tx, Int.toNat 6) ∈ zStr ∧ (0 : Int) ≤ 6 := ⟨"unlike", List.mem_of_getElem? (i := 18) rfl, by decide⟩
theorem z_Mo_142 : ∃ tx, ("ApartGamesModel", 142, tx, Int.toNat 7) ∈ zStr ∧ (0 : Int) ≤ 7 := ⟨"box", List.mem_of_getElem? (i := 19) rfl, by decide⟩
theorem z_Mo_405 : ∃ tx, ("ApartGamesModel", 405, tx, Int.toNat 8) ∈ zStr ∧ (0 : Int) ≤ 8 := ⟨";weight", List.mem_of_getElem? (i := 20) rfl, by decide⟩
theorem z_Mo_394 : ∃ tx, ("ApartGamesModel", 394, tx, Int.toNat 10) ∈ zStr ∧ (0 : Int) ≤ 10 := ⟨";box", List.mem_of_getElem? (i := 21) rfl, by decide⟩
theorem z_Mo_396 : ∃ tx, ("ApartGamesModel", 396, tx, Int.toNat 9) ∈ zStr ∧ (0 : Int) ≤ 9 := ⟨";win", List.mem_of_getElem? (i := 22) rfl, by decide⟩
theorem p_Tape_11 : ZPut M_Tape_init 11 6 0 := ⟨R_Tape, T_Tape, 4, rfl, Or.inr ⟨rfl, rfl, rfl, zmem1 (i := 30) rfl rfl⟩⟩
theorem p_Tape_15 {M : ZMeth} : ZPut M 15 6 1 := ⟨R_Tape, T_Tape, 4, rfl, Or.inl rfl⟩
theorem p_Ap_77 {M : ZMeth} : ZPut M 77 6 1 := ⟨R_Tape, T_Tape, 4, rfl, Or.inl rfl⟩
theorem p_Tape_19 {M : ZMeth} : ZPut M 19 6 2 := ⟨R_Tape, T_Tape, 4, rfl, Or.inl rfl⟩
theorem p_Tape_22 {M : ZMeth} : ZPut M 22 6 3 := ⟨R_Tape, T_Tape, 4, rfl, Or.inl rfl⟩
theorem p_Game_11 {M : ZMeth} : ZPut M 11 1 0 := ⟨R_Game, T_Game, 7, rfl, Or.inl rfl⟩
theorem p_Scribe_33 {M : ZMeth} : ZPut M 33 1 0 := ⟨R_Game, T_Game, 7, rfl, Or.inl rfl⟩
theorem p_Shape_31 {M : ZMeth} : ZPut M 31 1 0 := ⟨R_Game, T_Game, 7, rfl, Or.inl rfl⟩
theorem p_Ap_90 {M : ZMeth} : ZPut M 90 1 0 := ⟨R_Game, T_Game, 7, rfl, Or.inl rfl⟩
theorem p_Table_71 {M : ZMeth} : ZPut M 71 1 0 := ⟨R_Game, T_Game, 7, rfl, Or.inl rfl⟩
theorem p_Tape_63 {M : ZMeth} : ZPut M 63 1 0 := ⟨R_Game, T_Game, 7, rfl, Or.inl rfl⟩
theorem p_Duo_47 {M : ZMeth} : ZPut M 47 1 0 := ⟨R_Game, T_Game, 7, rfl, Or.inl rfl⟩
theorem p_Game_15 {M : ZMeth} : ZPut M 15 1 1 := ⟨R_Game, T_Game, 7, rfl, Or.inl rfl⟩
theorem p_Scribe_40 {M : ZMeth} : ZPut M 40 1 1 := ⟨R_Game, T_Game, 7, rfl, Or.inl rfl⟩
theorem p_Shape_37 {M : ZMeth} : ZPut M 37 1 1 := ⟨R_Game, T_Game, 7, rfl, Or.inl rfl⟩
theorem p_Table_77 {M : ZMeth} : ZPut M 77 1 1 := ⟨R_Game, T_Game, 7, rfl, Or.inl rfl⟩
theorem p_Tape_66 {M : ZMeth} : ZPut M 66 1 1 := ⟨R_Game, T_Game, 7, rfl, Or.inl rfl⟩
theorem p_Duo_88 {M : ZMeth} : ZPut M 88 1 1 := ⟨R_Game, T_Game, 7, rfl, Or.inl rfl⟩
theorem p_Ap_319 {M : ZMeth} : ZPut M 319 1 1 := ⟨R_Game, T_Game, 7, rfl, Or.inl rfl⟩
theorem p_Game_18 {M : ZMeth} : ZPut M 18 1 2 := ⟨R_Game, T_Game, 7, rfl, Or.inl rfl⟩
theorem p_Scribe_43 {M : ZMeth} : ZPut M 43 1 2 := ⟨R_Game, T_Game, 7, rfl, Or.inl rfl⟩
theorem p_Table_74 {M : ZMeth} : ZPut M 74 1 2 := ⟨R_Game, T_Game, 7, rfl, Or.inl rfl⟩
theorem p_Shape_64 {M : ZMeth} : ZPut M 64 1 2 := ⟨R_Game, T_Game, 7, rfl, Or.inl rfl⟩
theorem p_Tape_87 {M : ZMeth} : ZPut M 87 1 2 := ⟨R_Game, T_Game, 7, rfl, Or.inl rfl⟩
theorem p_Ap_239 {M : ZMeth} : ZPut M 239 1 2 := ⟨R_Game, T_Game, 7, rfl, Or.inl rfl⟩
theorem p_Game_21 {M : ZMeth} : ZPut M 21 1 3 := ⟨R_Game, T_Game, 7, rfl, Or.inl rfl⟩
theorem p_Scribe_46 {M : ZMeth} : ZPut M 46 1 3 := ⟨R_Game, T_Game, 7, rfl, Or.inl rfl⟩
theorem p_Table_80 {M : ZMeth} : ZPut M 80 1 3 := ⟨R_Game, T_Game, 7, rfl, Or.inl rfl⟩
theorem p_Shape_67 {M : ZMeth} : ZPut M 67 1 3 := ⟨R_Game, T_Game, 7, rfl, Or.inl rfl⟩
theorem p_Tape_90 {M : ZMeth} : ZPut M 90 1 3 := ⟨R_Game, T_Game, 7, rfl, Or.inl rfl⟩
theorem p_Duo_59 {M : ZMeth} : ZPut M 59 1 3 := ⟨R_Game, T_Game, 7, rfl, Or.inl rfl⟩
theorem p_Ap_242 {M : ZMeth} : ZPut M 242 1 3 := ⟨R_Game, T_Game, 7, rfl, Or.inl rfl⟩
theorem p_Game_24 : ZPut M_Game_init 24 1 4 := ⟨R_Game, T_Game, 7, rfl, Or.inr ⟨rfl, rfl, rfl, zmem1 (i := 85) rfl rfl⟩⟩
theorem p_Game_28 : ZPut M_Game_init 28 1 5 := ⟨R_Game, T_Game, 7, rfl, Or.inr ⟨rfl, rfl, rfl, zmem1 (i := 91) rfl rfl⟩⟩
theorem p_Game_31 : ZPut M_Game_init 31 1 6 := ⟨R_Game, T_Game, 7, rfl, Or.inr ⟨rfl, rfl, rfl, zmem1 (i := 97) rfl rfl⟩⟩
theorem p_Past_10 : ZPut M_Past_init 10 2 0 := ⟨R_Past, T_Past, 3, rfl, Or.inr ⟨rfl, rfl, rfl, zmem1 (i := 117) rfl rfl⟩⟩
theorem p_Past_16 {M : ZMeth} : ZPut M 16 2 1 := ⟨R_Past, T_Past, 3, rfl, Or.inl rfl⟩
theorem p_Past_20 {M : ZMeth} : ZPut M 20 2 2 := ⟨R_Past, T_Past, 3, rfl, Or.inl rfl⟩
theorem p_Ap_175 {M : ZMeth} : ZPut M 175 2 2 := ⟨R_Past, T_Past, 3, rfl, Or.inl rfl⟩
theorem p_Table_9 {M : ZMeth} : ZPut M 9 5 0 := ⟨R_Table, T_Table, 12, rfl, Or.inl rfl⟩
theorem p_Table_15 {M : ZMeth} : ZPut M 15 5 1 := ⟨R_Table, T_Table, 12, rfl, Or.inl rfl⟩
theorem p_Table_18 {M : ZMeth} : ZPut M 18 5 2 := ⟨R_Table, T_Table, 12, rfl, Or.inl rfl⟩
theorem p_Table_21 {M : ZMeth} : ZPut M 21 5 3 := ⟨R_Table, T_Table, 12, rfl, Or.inl rfl⟩
theorem p_Table_24 {M : ZMeth} : ZPut M 24 5 4 := ⟨R_Table, T_Table, 12, rfl, Or.inl rfl⟩
theorem p_Table_27 : ZPut M_Table_init 27 5 5 := ⟨R_Table, T_Table, 12, rfl, Or.inr ⟨rfl, rfl, rfl, zmem1 (i := 139) rfl rfl⟩⟩
theorem p_Table_31 : ZPut M_Table_init 31 5 6 := ⟨R_Table, T_Table, 12, rfl, Or.inr ⟨rfl, rfl, rfl, zmem1 (i := 140) rfl rfl⟩⟩
theorem p_Table_34 : ZPut M_Table_init 34 5 7 := ⟨R_Table, T_Table, 12, rfl, Or.inr ⟨rfl, rfl, rfl, zmem1 (i := 141) rfl rfl⟩⟩
theorem p_Table_37 : ZPut M_Table_init 37 5 8 := ⟨R_Table, T_Table, 12, rfl, Or.inr ⟨rfl, rfl, rfl, zmem1 (i := 142) rfl rfl⟩⟩
theorem p_Table_41 : ZPut M_Table_init 41 5 9 := ⟨R_Table, T_Table, 12, rfl, Or.inr ⟨rfl, rfl, rfl, zmem1 (i := 143) rfl rfl⟩⟩
theorem p_Table_44 : ZPut M_Table_init 44 5 10 := ⟨R_Table, T_Table, 12, rfl, Or.inr ⟨rfl, rfl, rfl, zmem1 (i := 144) rfl rfl⟩⟩
theorem p_Table_47 {M : ZMeth} : ZPut M 47 5 11 := ⟨R_Table, T_Table, 12, rfl, Or.inl rfl⟩
theorem p_Duo_9 : ZPut M_Duo_init 9 0 0 := ⟨R_Duo, T_Duo, 3, rfl, Or.inr ⟨rfl, rfl, rfl, zmem1 (i := 178) rfl rfl⟩⟩
theorem p_Duo_15 : ZPut M_Duo_init 15 0 1 := ⟨R_Duo, T_Duo, 3, rfl, Or.inr ⟨rfl, rfl, rfl, zmem1 (i := 179) rfl rfl⟩⟩
theorem p_Duo_18 : ZPut M_Duo_init 18 0 2 := ⟨R_Duo, T_Duo, 3, rfl, Or.inr ⟨rfl, rfl, rfl, zmem1 (i := 180) rfl rfl⟩⟩
theorem p_Shape_9 : ZPut M_Shape_init 9 4 0 := ⟨R_Shape, T_Shape, 3, rfl, Or.inr ⟨rfl, rfl, rfl, zmem1 (i := 194) rfl rfl⟩⟩
theorem p_Shape_15 : ZPut M_Shape_init 15 4 1 := ⟨R_Shape, T_Shape, 3, rfl, Or.inr ⟨rfl, rfl, rfl, zmem1 (i := 195) rfl rfl⟩⟩
theorem p_Shape_18 : ZPut M_Shape_init 18 4 2 := ⟨R_Shape, T_Shape, 3, rfl, Or.inr ⟨rfl, rfl, rfl, zmem1 (i := 196) rfl rfl⟩⟩
theorem p_Scribe_9 {M : ZMeth} : ZPut M 9 3 0 := ⟨R_Scribe, T_Scribe, 3, rfl, Or.inl rfl⟩
theorem p_Scribe_15 {M : ZMeth} : ZPut M 15 3 1 := ⟨R_Scribe, T_Scribe, 3, rfl, Or.inl rfl⟩
theorem p_Ap_316 {M : ZMeth} : ZPut M 316 3 1 := ⟨R_Scribe, T_Scribe, 3, rfl, Or.inl rfl⟩
theorem p_Scribe_18 {M : ZMeth} : ZPut M 18 3 2 := ⟨R_Scribe, T_Scribe, 3, rfl, Or.inl rfl⟩
theorem p_Ap_10 : ZPut M_Ap_init 10 7 0 := ⟨R_Ap, T_Ap, 10, rfl, Or.inr ⟨rfl, rfl, rfl, zmem1 (i := 223) rfl rfl⟩⟩
theorem p_Ap_19 : ZPut M_Ap_init 19 7 1 := ⟨R_Ap, T_Ap, 10, rfl, Or.inr ⟨rfl, rfl, rfl, zmem1 (i := 224) rfl rfl⟩⟩
theorem p_Ap_26 : ZPut M_Ap_init 26 7 2 := ⟨R_Ap, T_Ap, 10, rfl, Or.inr ⟨rfl, rfl, rfl, zmem1 (i := 225) rfl rfl⟩⟩
theorem p_Ap_33 : ZPut M_Ap_init 33 7 3 := ⟨R_Ap, T_Ap, 10, rfl, Or.inr ⟨rfl, rfl, rfl, zmem1 (i := 226) rfl rfl⟩⟩
theorem p_Ap_40 : ZPut M_Ap_init 40 7 4 := ⟨R_Ap, T_Ap, 10, rfl, Or.inr ⟨rfl, rfl, rfl, zmem1 (i := 227) rfl rfl⟩⟩
theorem p_Ap_47 : ZPut M_Ap_init 47 7 5 := ⟨R_Ap, T_Ap, 10, rfl, Or.inr ⟨rfl, rfl, rfl, zmem1 (i := 228) rfl rfl⟩⟩
theorem p_Ap_54 : ZPut M_Ap_init 54 7 6 := ⟨R_Ap, T_Ap, 10, rfl, Or.inr ⟨rfl, rfl, rfl, zmem1 (i := 229) rfl rfl⟩⟩
theorem p_Ap_58 {M : ZMeth} : ZPut M 58 7 7 := ⟨R_Ap, T_Ap, 10, rfl, Or.inl rfl⟩
theorem p_Ap_62 {M : ZMeth} : ZPut M 62 7 8 := ⟨R_Ap, T_Ap, 10, rfl, Or.inl rfl⟩
theorem p_Ap_66 {M : ZMeth} : ZPut M 66 7 9 := ⟨R_Ap, T_Ap, 10, rfl, Or.inl rfl⟩
theorem p_Mo_9 : ZPut M_Mo_init 9 8 0 := ⟨R_Mo, T_Mo, 26, rfl, Or.inr ⟨rfl, rfl, rfl, zmem5 (i := 112) rfl rfl⟩⟩
theorem p_Mo_13 : ZPut M_Mo_init 13 8 1 := ⟨R_Mo, T_Mo, 26, rfl, Or.inr ⟨rfl, rfl, rfl, zmem5 (i := 113) rfl rfl⟩⟩
theorem p_Mo_16 : ZPut M_Mo_init 16 8 2 := ⟨R_Mo, T_Mo, 26, rfl, Or.inr ⟨rfl, rfl, rfl, zmem5 (i := 114) rfl rfl⟩⟩
theorem p_Mo_19 : ZPut M_Mo_init 19 8 3 := ⟨R_Mo, T_Mo, 26, rfl, Or.inr ⟨rfl, rfl, rfl, zmem5 (i := 115) rfl rfl⟩⟩
theorem p_Mo_22 : ZPut M_Mo_init 22 8 4 := ⟨R_Mo, T_Mo, 26, rfl, Or.inr ⟨rfl, rfl, rfl, zmem5 (i := 116) rfl rfl⟩⟩
theorem p_Mo_25 : ZPut M_Mo_init 25 8 5 := ⟨R_Mo, T_Mo, 26, rfl, Or.inr ⟨rfl, rfl, rfl, zmem5 (i := 117) rfl rfl⟩⟩
theorem p_Mo_160 {M : ZMeth} : ZPut M 160 8 6 := ⟨R_Mo, T_Mo, 26, rfl, Or.inl rfl⟩
theorem p_Mo_29 : ZPut M_Mo_init 29 8 7 := ⟨R_Mo, T_Mo, 26, rfl, Or.inr ⟨rfl, rfl, rfl, zmem5 (i := 119) rfl rfl⟩⟩
theorem p_Mo_64 {M : ZMeth} : ZPut M 64 8 8 := ⟨R_Mo, T_Mo, 26, rfl, Or.inl rfl⟩
theorem p_Mo_72 {M : ZMeth} : ZPut M 72 8 9 := ⟨R_Mo, T_Mo, 26, rfl, Or.inl rfl⟩
theorem p_Mo_79 {M : ZMeth} : ZPut M 79 8 10 := ⟨R_Mo, T_Mo, 26, rfl, Or.inl rfl⟩
theorem p_Mo_114 {M : ZMeth} : ZPut M 114 8 11 := ⟨R_Mo, T_Mo, 26, rfl, Or.inl rfl⟩
theorem p_Mo_33 : ZPut M_Mo_init 33 8 12 := ⟨R_Mo, T_Mo, 26, rfl, Or.inr ⟨rfl, rfl, rfl, zmem5 (i := 124) rfl rfl⟩⟩
theorem p_Mo_36 : ZPut M_Mo_init 36 8 13 := ⟨R_Mo, T_Mo, 26, rfl, Or.inr ⟨rfl, rfl, rfl, zmem5 (i := 125) rfl rfl⟩⟩
theorem p_Mo_235 {M : ZMeth} : ZPut M 235 8 14 := ⟨R_Mo, T_Mo, 26, rfl, Or.inl rfl⟩
theorem p_Mo_39 : ZPut M_Mo_init 39 8 15 := ⟨R_Mo, T_Mo, 26, rfl, Or.inr ⟨rfl, rfl, rfl, zmem5 (i := 127) rfl rfl⟩⟩
theorem p_Mo_275 {M : ZMeth} : ZPut M 275 8 16 := ⟨R_Mo, T_Mo, 26, rfl, Or.inl rfl⟩
theorem p_Mo_42 : ZPut M_Mo_init 42 8 17 := ⟨R_Mo, T_Mo, 26, rfl, Or.inr ⟨rfl, rfl, rfl, zmem5 (i := 129) rfl rfl⟩⟩
theorem p_Mo_45 : ZPut M_Mo_init 45 8 18 := ⟨R_Mo, T_Mo, 26, rfl, Or.inr ⟨rfl, rfl, rfl, zmem5 (i := 130) rfl rfl⟩⟩
theorem p_Mo_48 : ZPut M_Mo_init 48 8 19 := ⟨R_Mo, T_Mo, 26, rfl, Or.inr ⟨rfl, rfl, rfl, zmem5 (i := 131) rfl rfl⟩⟩
theorem p_Mo_51 : ZPut M_Mo_init 51 8 20 := ⟨R_Mo, T_Mo, 26, rfl, Or.inr ⟨rfl, rfl, rfl, zmem5 (i := 132) rfl rfl⟩⟩
theorem p_Mo_54 : ZPut M_Mo_init 54 8 21 := ⟨R_Mo, T_Mo, 26, rfl, Or.inr ⟨rfl, rfl, rfl, zmem5 (i := 133) rfl rfl⟩⟩
theorem p_Mo_57 : ZPut M_Mo_init 57 8 22 := ⟨R_Mo, T_Mo, 26, rfl, Or.inr ⟨rfl, rfl, rfl, zmem5 (i := 134) rfl rfl⟩⟩
theorem p_Mo_382 {M : ZMeth} : ZPut M 382 8 23 := ⟨R_Mo, T_Mo, 26, rfl, Or.inl rfl⟩
theorem p_Mo_385 {M : ZMeth} : ZPut M 385 8 24 := ⟨R_Mo, T_Mo, 26, rfl, Or.inl rfl⟩
theorem p_Mo_388 {M : ZMeth} : ZPut M 388 8 25 := ⟨R_Mo, T_Mo, 26, rfl, Or.inl rfl⟩
section EVA
variable {X : Option (Nat × (Nat → Int))} {d : Nat} {M : ZMeth} {mc ms pc : Nat} {ls st : List ZV} {kd : ZK} {m : ZM} {Q : ZQ}
theorem EvX.mmax' {idx : Nat} {x y : Int} (hd : decode M.2.1 pc = .ok (.invokestatic idx, 3)) (h1 : Cond.methodLink M.1.cls idx Lib.Math.max.name ∈ zWs) (hlen : (st.map zcat).sum ≤ 8) (kk : EvX X (d + 1) M mc ms (pc + 3) ls ((0, zmax x y) :: st) kd m Q) : EvX X (d + 1) M mc ms pc ls ((0, y) :: (0, x) :: st) kd m Q :=
  EvX.mmax hd h1 y_st_max y_init_Math y_cd_max hlen kk
theorem EvX.mmin' {idx : Nat} {x y : Int} (hd : decode M.2.1 pc = .ok (.invokestatic idx, 3)) (h1 : Cond.methodLink M.1.cls idx Lib.Math.min.name ∈ zWs) (hlen : (st.map zcat).sum ≤ 8) (kk : EvX X (d + 1) M mc ms (pc + 3) ls ((0, zmin x y) :: st) kd m Q) : EvX X (d + 1) M mc ms pc ls ((0, y) :: (0, x) :: st) kd m Q :=
  EvX.mmin hd h1 y_st_min y_init_Math y_cd_min hlen kk
theorem EvX.mabs' {idx : Nat} {x : Int} (hd : decode M.2.1 pc = .ok (.invokestatic idx, 3)) (h1 : Cond.methodLink M.1.cls idx Lib.Math.abs.name ∈ zWs) (hlen : (st.map zcat).sum ≤ 8) (kk : EvX X (d + 1) M mc ms (pc + 3) ls ((0, zabs x) :: st) kd m Q) : EvX X (d + 1) M mc ms pc ls ((0, x) :: st) kd m Q :=
  EvX.mabs hd h1 y_st_abs y_init_Math y_cd_abs hlen kk
theorem EvX.acopy' {idx nb na : Nat} {b sp a dp n : Int} (hd : decode M.2.1 pc = .ok (.invokestatic idx, 3)) (h1 : Cond.methodLink M.1.cls idx arraycopyName ∈ zWs) (hb : zarr kd b 0 nb) (ha : zarr kd a 0 na) (g1 : 0 ≤ sp) (g2 : 0 ≤ dp) (g3 : 0 ≤ n) (g4 : sp + n ≤ nb) (g5 : dp + n ≤ na) (hlen : (st.map zcat).sum ≤ 8)
    (kk : EvX X (d + 1) M mc ms (pc + 3) ls st kd (zcpy m b sp a dp n) Q) : EvX X (d + 1) M mc ms pc ls ((0, n) :: (0, dp) :: (2, a) :: (0, sp) :: (2, b) :: st) kd m Q :=
  EvX.acopy hd h1 y_cpn y_cps y_init_Sys hb ha g1 g2 g3 g4 g5 hlen kk
/-- a switch -/
theorem EvX.tsw {dflt lo hi : Int} {offs : Array Int} {len n df : Nat} {x : Int} {tgt : Nat → Nat} (hd : decode M.2.1 pc = .ok (.tableswitch dflt lo hi offs, len)) (hdf : (pc : Int) + dflt = (df : Int)) (hn : hi - lo < n) (ht : ∀ k, k < n → ∃ off, offs[k]? = some off ∧ (pc : Int) + off = (tgt k : Int))
    (ko : (x < lo ∨ hi < x) → EvX X d M mc ms df ls st kd m Q) (ki : ¬ (x < lo ∨ hi < x) → EvX X d M mc ms (tgt (x - lo).toNat) ls st kd m Q) : EvX X d M mc ms pc ls ((0, x) :: st) kd m Q := by
  intro hm hl hs E p l e R s mi args below meth c0 H locs cells slots D A ad ca tys lsr Qs hF hR hX hZ hS hA hE hL hQ
  have hx := zi_toInt (zi0 hs)
  show W p l e R s mi args below meth c0 H locs cells slots Qs (F0 mi pc lsr (.int (Int32.ofInt x) :: zst E ad st))
  by_cases h : x < lo ∨ hi < x
  · exact lv_tableOut hF.1 hF.2.1 hd (by rw [hx]; exact h) hdf (ko h hm hl (zoks_tail hs) E p l e R s mi args below meth c0 H locs cells slots D A ad ca tys lsr Qs hF hR hX hZ hS hA hE hL hQ)
  · obtain ⟨off, h1, h2⟩ := ht (x - lo).toNat (by omega)
    exact lv_tableIn hF.1 hF.2.1 hd (by rw [hx]; omega) (by rw [hx]; omega) (by rw [hx]; exact h1) h2 (ki h hm hl (zoks_tail hs) E p l e R s mi args below meth c0 H locs cells slots D A ad ca tys lsr Qs hF hR hX hZ hS hA hE hL hQ)
end EVA
