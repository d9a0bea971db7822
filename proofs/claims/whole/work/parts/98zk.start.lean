/-! THE START: what the Statement gives -/
theorem zfl {w : Cond} {i : Nat} (h : (flatC (Jvm.Cond.and given_1 narrow_1))[i]? = some w) : w ∈ flatC (Jvm.Cond.and given_1 narrow_1) := List.mem_of_getElem? h
theorem zlw1 {w : Cond} {i : Nat} (h : tables_1_1[i]? = some w) : w ∈ lw_tbl := List.mem_append_right _ (show w ∈ tables_1 from List.mem_append_left _ (List.mem_of_getElem? h))
theorem zlw2 {w : Cond} {i : Nat} (h : tables_1_2[i]? = some w) : w ∈ lw_tbl := List.mem_append_right _ (show w ∈ tables_1 from List.mem_append_right _ (List.mem_append_left _ (List.mem_of_getElem? h)))
theorem zlw3 {w : Cond} {i : Nat} (h : tables_1_3[i]? = some w) : w ∈ lw_tbl := List.mem_append_right _ (show w ∈ tables_1 from List.mem_append_right _ (List.mem_append_right _ (List.mem_append_left _ (List.mem_of_getElem? h))))
theorem zlw4 {w : Cond} {i : Nat} (h : tables_1_4[i]? = some w) : w ∈ lw_tbl := List.mem_append_right _ (show w ∈ tables_1 from List.mem_append_right _ (List.mem_append_right _ (List.mem_append_right _ (List.mem_append_left _ (List.mem_of_getElem? h)))))
theorem zlw5 {w : Cond} {i : Nat} (h : tables_1_5[i]? = some w) : w ∈ lw_tbl := List.mem_append_right _ (show w ∈ tables_1 from List.mem_append_right _ (List.mem_append_right _ (List.mem_append_right _ (List.mem_append_right _ (List.mem_append_left _ (List.mem_of_getElem? h))))))
theorem zlw6 {w : Cond} {i : Nat} (h : tables_1_6[i]? = some w) : w ∈ lw_tbl := List.mem_append_right _ (show w ∈ tables_1 from List.mem_append_right _ (List.mem_append_right _ (List.mem_append_right _ (List.mem_append_right _ (List.mem_append_right _ (List.mem_append_left _ (List.mem_of_getElem? h)))))))
theorem zlw7 {w : Cond} {i : Nat} (h : tables_1_7[i]? = some w) : w ∈ lw_tbl := List.mem_append_right _ (show w ∈ tables_1 from List.mem_append_right _ (List.mem_append_right _ (List.mem_append_right _ (List.mem_append_right _ (List.mem_append_right _ (List.mem_append_right _ (List.mem_of_getElem? h)))))))
theorem st_NM : ∀ w ∈ zNM, Cond.methodLinkNest w.1 w.2.1 w.2.2.1 w.2.2.2 ∈ lw_tbl := List.forall_mem_cons.mpr ⟨zlw1 (i := 26) rfl, List.forall_mem_cons.mpr ⟨zlw1 (i := 47) rfl, List.forall_mem_cons.mpr ⟨zlw1 (i := 54) rfl, List.forall_mem_cons.mpr ⟨zlw1 (i := 130) rfl, List.forall_mem_cons.mpr ⟨zlw1 (i := 174) rfl, List.forall_mem_cons.mpr ⟨zlw1 (i := 190) rfl, List.forall_mem_cons.mpr ⟨zlw1 (i := 206) rfl, List.forall_mem_cons.mpr ⟨zlw1 (i := 222) rfl, List.forall_mem_cons.mpr ⟨zlw2 (i := 18) rfl, List.forall_mem_cons.mpr ⟨zlw2 (i := 22) rfl, List.forall_mem_cons.mpr ⟨zlw2 (i := 34) rfl, List.forall_mem_cons.mpr ⟨zlw2 (i := 114) rfl, List.forall_mem_cons.mpr ⟨zlw2 (i := 137) rfl, List.forall_mem_cons.mpr ⟨zlw2 (i := 144) rfl, List.forall_mem_cons.mpr ⟨zlw2 (i := 157) rfl, List.forall_mem_cons.mpr ⟨zlw2 (i := 166) rfl, List.forall_mem_cons.mpr ⟨zlw2 (i := 174) rfl, List.forall_mem_cons.mpr ⟨zlw2 (i := 182) rfl, List.forall_mem_cons.mpr ⟨zlw2 (i := 186) rfl, List.forall_mem_cons.mpr ⟨zlw2 (i := 198) rfl, List.forall_mem_cons.mpr ⟨zlw2 (i := 216) rfl, List.forall_mem_cons.mpr ⟨zlw2 (i := 220) rfl, List.forall_mem_cons.mpr ⟨zlw2 (i := 221) rfl, List.forall_mem_cons.mpr ⟨zlw2 (i := 229) rfl, List.forall_mem_cons.mpr ⟨zlw2 (i := 233) rfl, List.forall_mem_cons.mpr ⟨zlw3 (i := 4) rfl, List.forall_mem_cons.mpr ⟨zlw3 (i := 8) rfl, List.forall_mem_cons.mpr ⟨zlw3 (i := 12) rfl, List.forall_mem_cons.mpr ⟨zlw3 (i := 21) rfl, List.forall_mem_cons.mpr ⟨zlw3 (i := 22) rfl, List.forall_mem_cons.mpr ⟨zlw3 (i := 23) rfl, List.forall_mem_cons.mpr ⟨zlw3 (i := 39) rfl, List.forall_mem_cons.mpr ⟨zlw3 (i := 51) rfl, List.forall_mem_cons.mpr ⟨zlw3 (i := 63) rfl, List.forall_mem_cons.mpr ⟨zlw3 (i := 64) rfl, List.forall_mem_cons.mpr ⟨zlw3 (i := 65) rfl, List.forall_mem_cons.mpr ⟨zlw3 (i := 66) rfl, List.forall_mem_cons.mpr ⟨zlw3 (i := 70) rfl, List.forall_mem_cons.mpr ⟨zlw3 (i := 74) rfl, List.forall_mem_cons.mpr ⟨zlw3 (i := 82) rfl, List.forall_mem_cons.mpr ⟨zlw3 (i := 90) rfl, List.forall_mem_cons.mpr ⟨zlw3 (i := 102) rfl, List.forall_mem_cons.mpr ⟨zlw3 (i := 110) rfl, List.forall_mem_cons.mpr ⟨zlw3 (i := 131) rfl, List.forall_mem_cons.mpr ⟨zlw3 (i := 135) rfl, List.forall_mem_cons.mpr ⟨zlw3 (i := 136) rfl, List.forall_mem_cons.mpr ⟨zlw3 (i := 145) rfl, List.forall_mem_cons.mpr ⟨zlw3 (i := 149) rfl, List.forall_mem_cons.mpr ⟨zlw3 (i := 189) rfl, List.forall_mem_cons.mpr ⟨zlw3 (i := 193) rfl, List.forall_mem_cons.mpr ⟨zlw3 (i := 222) rfl, List.forall_mem_cons.mpr ⟨zlw3 (i := 231) rfl, List.forall_mem_cons.mpr ⟨zlw3 (i := 235) rfl, List.forall_mem_cons.mpr ⟨zlw4 (i := 2) rfl, List.forall_mem_cons.mpr ⟨zlw4 (i := 10) rfl, List.forall_mem_cons.mpr ⟨zlw4 (i := 15) rfl, List.forall_mem_cons.mpr ⟨zlw4 (i := 16) rfl, List.forall_mem_cons.mpr ⟨zlw4 (i := 25) rfl, List.forall_mem_cons.mpr ⟨zlw4 (i := 29) rfl, List.forall_mem_cons.mpr ⟨zlw4 (i := 30) rfl, List.forall_mem_cons.mpr ⟨zlw4 (i := 40) rfl, List.forall_mem_cons.mpr ⟨zlw4 (i := 64) rfl, List.forall_mem_cons.mpr ⟨zlw4 (i := 84) rfl, List.forall_mem_cons.mpr ⟨zlw4 (i := 96) rfl, List.forall_mem_cons.mpr ⟨zlw4 (i := 101) rfl, List.forall_mem_cons.mpr ⟨zlw4 (i := 124) rfl, List.forall_mem_cons.mpr ⟨zlw4 (i := 133) rfl, List.forall_mem_cons.mpr ⟨zlw4 (i := 145) rfl, List.forall_mem_cons.mpr ⟨zlw4 (i := 152) rfl, List.forall_mem_cons.mpr ⟨zlw4 (i := 164) rfl, List.forall_mem_cons.mpr ⟨zlw4 (i := 172) rfl, List.forall_mem_cons.mpr ⟨zlw4 (i := 178) rfl, List.forall_mem_cons.mpr ⟨zlw4 (i := 191) rfl, List.forall_mem_cons.mpr ⟨zlw4 (i := 200) rfl, List.forall_mem_cons.mpr ⟨zlw4 (i := 221) rfl, List.forall_mem_cons.mpr ⟨zlw4 (i := 229) rfl, List.forall_mem_cons.mpr ⟨zlw4 (i := 234) rfl, List.forall_mem_cons.mpr ⟨zlw5 (i := 2) rfl, List.forall_mem_cons.mpr ⟨zlw5 (i := 7) rfl, List.forall_mem_cons.mpr ⟨zlw5 (i := 11) rfl, List.forall_mem_cons.mpr ⟨zlw5 (i := 19) rfl, List.forall_mem_cons.mpr ⟨zlw5 (i := 27) rfl, List.forall_mem_cons.mpr ⟨zlw5 (i := 28) rfl, List.forall_mem_cons.mpr ⟨zlw5 (i := 33) rfl, List.forall_mem_cons.mpr ⟨zlw5 (i := 41) rfl, List.forall_mem_cons.mpr ⟨zlw5 (i := 61) rfl, List.forall_mem_cons.mpr ⟨zlw5 (i := 65) rfl, List.forall_mem_cons.mpr ⟨zlw5 (i := 85) rfl, List.forall_mem_cons.mpr ⟨zlw5 (i := 92) rfl, (fun _ h => absurd h List.not_mem_nil)⟩⟩⟩⟩⟩⟩⟩⟩⟩⟩⟩⟩⟩⟩⟩⟩⟩⟩⟩⟩⟩⟩⟩⟩⟩⟩⟩⟩⟩⟩⟩⟩⟩⟩⟩⟩⟩⟩⟩⟩⟩⟩⟩⟩⟩⟩⟩⟩⟩⟩⟩⟩⟩⟩⟩⟩⟩⟩⟩⟩⟩⟩⟩⟩⟩⟩⟩⟩⟩⟩⟩⟩⟩⟩⟩⟩⟩⟩⟩⟩⟩⟩⟩⟩⟩⟩⟩⟩⟩
theorem st_NF : ∀ w ∈ zNF, Cond.fieldLinkNest w.1 w.2.1 w.2.2.1 w.2.2.2.1 w.2.2.2.2.1 w.2.2.2.2.2 ∈ lw_tbl := List.forall_mem_cons.mpr ⟨zlw1 (i := 32) rfl, List.forall_mem_cons.mpr ⟨zlw1 (i := 59) rfl, List.forall_mem_cons.mpr ⟨zlw1 (i := 60) rfl, List.forall_mem_cons.mpr ⟨zlw1 (i := 61) rfl, List.forall_mem_cons.mpr ⟨zlw1 (i := 62) rfl, List.forall_mem_cons.mpr ⟨zlw1 (i := 63) rfl, List.forall_mem_cons.mpr ⟨zlw1 (i := 64) rfl, List.forall_mem_cons.mpr ⟨zlw1 (i := 66) rfl, List.forall_mem_cons.mpr ⟨zlw1 (i := 67) rfl, List.forall_mem_cons.mpr ⟨zlw1 (i := 68) rfl, List.forall_mem_cons.mpr ⟨zlw1 (i := 69) rfl, List.forall_mem_cons.mpr ⟨zlw1 (i := 70) rfl, List.forall_mem_cons.mpr ⟨zlw1 (i := 71) rfl, List.forall_mem_cons.mpr ⟨zlw1 (i := 73) rfl, List.forall_mem_cons.mpr ⟨zlw1 (i := 74) rfl, List.forall_mem_cons.mpr ⟨zlw1 (i := 75) rfl, List.forall_mem_cons.mpr ⟨zlw1 (i := 76) rfl, List.forall_mem_cons.mpr ⟨zlw1 (i := 77) rfl, List.forall_mem_cons.mpr ⟨zlw1 (i := 79) rfl, List.forall_mem_cons.mpr ⟨zlw1 (i := 80) rfl, List.forall_mem_cons.mpr ⟨zlw1 (i := 81) rfl, List.forall_mem_cons.mpr ⟨zlw1 (i := 82) rfl, List.forall_mem_cons.mpr ⟨zlw1 (i := 83) rfl, List.forall_mem_cons.mpr ⟨zlw1 (i := 84) rfl, List.forall_mem_cons.mpr ⟨zlw1 (i := 86) rfl, List.forall_mem_cons.mpr ⟨zlw1 (i := 87) rfl, List.forall_mem_cons.mpr ⟨zlw1 (i := 88) rfl, List.forall_mem_cons.mpr ⟨zlw1 (i := 89) rfl, List.forall_mem_cons.mpr ⟨zlw1 (i := 90) rfl, List.forall_mem_cons.mpr ⟨zlw1 (i := 92) rfl, List.forall_mem_cons.mpr ⟨zlw1 (i := 93) rfl, List.forall_mem_cons.mpr ⟨zlw1 (i := 94) rfl, List.forall_mem_cons.mpr ⟨zlw1 (i := 95) rfl, List.forall_mem_cons.mpr ⟨zlw1 (i := 96) rfl, List.forall_mem_cons.mpr ⟨zlw1 (i := 98) rfl, List.forall_mem_cons.mpr ⟨zlw1 (i := 99) rfl, List.forall_mem_cons.mpr ⟨zlw1 (i := 100) rfl, List.forall_mem_cons.mpr ⟨zlw1 (i := 101) rfl, List.forall_mem_cons.mpr ⟨zlw1 (i := 120) rfl, List.forall_mem_cons.mpr ⟨zlw1 (i := 212) rfl, (fun _ h => absurd h List.not_mem_nil)⟩⟩⟩⟩⟩⟩⟩⟩⟩⟩⟩⟩⟩⟩⟩⟩⟩⟩⟩⟩⟩⟩⟩⟩⟩⟩⟩⟩⟩⟩⟩⟩⟩⟩⟩⟩⟩⟩⟩⟩
theorem st_SR : ∀ w ∈ zStr, Cond.stringRef w.1 w.2.1 w.2.2.1 ∈ lw_tbl := List.forall_mem_cons.mpr ⟨zlw2 (i := 50) rfl, List.forall_mem_cons.mpr ⟨zlw2 (i := 126) rfl, List.forall_mem_cons.mpr ⟨zlw2 (i := 127) rfl, List.forall_mem_cons.mpr ⟨zlw2 (i := 128) rfl, List.forall_mem_cons.mpr ⟨zlw2 (i := 129) rfl, List.forall_mem_cons.mpr ⟨zlw2 (i := 130) rfl, List.forall_mem_cons.mpr ⟨zlw2 (i := 131) rfl, List.forall_mem_cons.mpr ⟨zlw2 (i := 132) rfl, List.forall_mem_cons.mpr ⟨zlw5 (i := 66) rfl, List.forall_mem_cons.mpr ⟨zlw5 (i := 86) rfl, List.forall_mem_cons.mpr ⟨zlw5 (i := 87) rfl, List.forall_mem_cons.mpr ⟨zlw5 (i := 101) rfl, List.forall_mem_cons.mpr ⟨zlw5 (i := 207) rfl, List.forall_mem_cons.mpr ⟨zlw6 (i := 9) rfl, List.forall_mem_cons.mpr ⟨zlw6 (i := 10) rfl, List.forall_mem_cons.mpr ⟨zlw6 (i := 11) rfl, List.forall_mem_cons.mpr ⟨zlw6 (i := 12) rfl, List.forall_mem_cons.mpr ⟨zlw6 (i := 13) rfl, List.forall_mem_cons.mpr ⟨zlw6 (i := 14) rfl, List.forall_mem_cons.mpr ⟨zlw6 (i := 15) rfl, List.forall_mem_cons.mpr ⟨zlw7 (i := 200) rfl, List.forall_mem_cons.mpr ⟨zlw7 (i := 205) rfl, List.forall_mem_cons.mpr ⟨zlw7 (i := 206) rfl, (fun _ h => absurd h List.not_mem_nil)⟩⟩⟩⟩⟩⟩⟩⟩⟩⟩⟩⟩⟩⟩⟩⟩⟩⟩⟩⟩⟩⟩⟩
def ztm (i : Nat) : Term := match i with
  | 0 => .string "ApartGames$Tape" 39
  | 1 => .string "ApartGames$Tape" 107
  | 2 => .string "ApartGames$Tape" 109
  | 3 => .string "ApartGames$Tape" 111
  | 4 => .string "ApartGames$Tape" 113
  | 5 => .string "ApartGames$Tape" 115
  | 6 => .string "ApartGames$Tape" 117
  | 7 => .string "ApartGames$Tape" 119
  | 8 => .string "ApartGames$Scribe" 75
  | 9 => .string "ApartGames$Scribe" 53
  | _ => .string "ApartGames$Scribe" 63
section START
variable {s : State} {args : Array Value}
theorem st_ex (hn : ∀ c ∈ flatC (Jvm.Cond.and given_1 narrow_1), c.before args s = true) : ∀ i : Nat, i < 11 → (Cond.exactly (ztm i) "java/lang/String").before args s = true := by
  intro i hi
  rcases (show i = 0 ∨ i = 1 ∨ i = 2 ∨ i = 3 ∨ i = 4 ∨ i = 5 ∨ i = 6 ∨ i = 7 ∨ i = 8 ∨ i = 9 ∨ i = 10 by omega) with rfl | rfl | rfl | rfl | rfl | rfl | rfl | rfl | rfl | rfl | rfl
  · exact hn _ (zfl (i := 9) rfl)
  · exact hn _ (zfl (i := 17) rfl)
  · exact hn _ (zfl (i := 28) rfl)
  · exact hn _ (zfl (i := 37) rfl)
  · exact hn _ (zfl (i := 48) rfl)
  · exact hn _ (zfl (i := 59) rfl)
  · exact hn _ (zfl (i := 73) rfl)
  · exact hn _ (zfl (i := 89) rfl)
  · exact hn _ (zfl (i := 119) rfl)
  · exact hn _ (zfl (i := 139) rfl)
  · exact hn _ (zfl (i := 157) rfl)
theorem st_co (hn : ∀ c ∈ flatC (Jvm.Cond.and given_1 narrow_1), c.before args s = true) : ∀ i : Nat, i < 11 → (Cond.eq (.field (ztm i) "java/lang/String" "coder" "B") (.int 0)).before args s = true := by
  intro i hi
  rcases (show i = 0 ∨ i = 1 ∨ i = 2 ∨ i = 3 ∨ i = 4 ∨ i = 5 ∨ i = 6 ∨ i = 7 ∨ i = 8 ∨ i = 9 ∨ i = 10 by omega) with rfl | rfl | rfl | rfl | rfl | rfl | rfl | rfl | rfl | rfl | rfl
  · exact hn _ (zfl (i := 10) rfl)
  · exact hn _ (zfl (i := 18) rfl)
  · exact hn _ (zfl (i := 29) rfl)
  · exact hn _ (zfl (i := 38) rfl)
  · exact hn _ (zfl (i := 49) rfl)
  · exact hn _ (zfl (i := 60) rfl)
  · exact hn _ (zfl (i := 74) rfl)
  · exact hn _ (zfl (i := 90) rfl)
  · exact hn _ (zfl (i := 120) rfl)
  · exact hn _ (zfl (i := 140) rfl)
  · exact hn _ (zfl (i := 158) rfl)
theorem st_ar (hn : ∀ c ∈ flatC (Jvm.Cond.and given_1 narrow_1), c.before args s = true) : ∀ i : Nat, i < 11 → (Cond.arrayOf (.field (ztm i) "java/lang/String" "value" "[B") .byte).before args s = true := by
  intro i hi
  rcases (show i = 0 ∨ i = 1 ∨ i = 2 ∨ i = 3 ∨ i = 4 ∨ i = 5 ∨ i = 6 ∨ i = 7 ∨ i = 8 ∨ i = 9 ∨ i = 10 by omega) with rfl | rfl | rfl | rfl | rfl | rfl | rfl | rfl | rfl | rfl | rfl
  · exact hn _ (zfl (i := 11) rfl)
  · exact hn _ (zfl (i := 19) rfl)
  · exact hn _ (zfl (i := 30) rfl)
  · exact hn _ (zfl (i := 39) rfl)
  · exact hn _ (zfl (i := 50) rfl)
  · exact hn _ (zfl (i := 61) rfl)
  · exact hn _ (zfl (i := 75) rfl)
  · exact hn _ (zfl (i := 91) rfl)
  · exact hn _ (zfl (i := 121) rfl)
  · exact hn _ (zfl (i := 141) rfl)
  · exact hn _ (zfl (i := 159) rfl)
theorem st_le (hn : ∀ c ∈ flatC (Jvm.Cond.and given_1 narrow_1), c.before args s = true) : ∀ i : Nat, i < 11 → (Cond.eq (.length (.field (ztm i) "java/lang/String" "value" "[B")) (.int (Int32.ofNat (zsLen.getD i 0)))).before args s = true := by
  intro i hi
  rcases (show i = 0 ∨ i = 1 ∨ i = 2 ∨ i = 3 ∨ i = 4 ∨ i = 5 ∨ i = 6 ∨ i = 7 ∨ i = 8 ∨ i = 9 ∨ i = 10 by omega) with rfl | rfl | rfl | rfl | rfl | rfl | rfl | rfl | rfl | rfl | rfl
  · exact hn _ (zfl (i := 12) rfl)
  · exact hn _ (zfl (i := 20) rfl)
  · exact hn _ (zfl (i := 31) rfl)
  · exact hn _ (zfl (i := 40) rfl)
  · exact hn _ (zfl (i := 51) rfl)
  · exact hn _ (zfl (i := 62) rfl)
  · exact hn _ (zfl (i := 76) rfl)
  · exact hn _ (zfl (i := 92) rfl)
  · exact hn _ (zfl (i := 122) rfl)
  · exact hn _ (zfl (i := 142) rfl)
  · exact hn _ (zfl (i := 160) rfl)
theorem st_el (hn : ∀ c ∈ flatC (Jvm.Cond.and given_1 narrow_1), c.before args s = true) : ∀ i : Nat, i < 11 → ∀ j : Nat, j < zsLen.getD i 0 → (Cond.eq (.elem (.field (ztm i) "java/lang/String" "value" "[B") (.int (Int32.ofNat j))) (.int ((zsByt.getD i []).getD j 0))).before args s = true := by
  intro i hi
  rcases (show i = 0 ∨ i = 1 ∨ i = 2 ∨ i = 3 ∨ i = 4 ∨ i = 5 ∨ i = 6 ∨ i = 7 ∨ i = 8 ∨ i = 9 ∨ i = 10 by omega) with rfl | rfl | rfl | rfl | rfl | rfl | rfl | rfl | rfl | rfl | rfl
  · intro j hj
    rcases (show j = 0 ∨ j = 1 ∨ j = 2 ∨ j = 3 by have hj : j < 4 := hj; omega) with rfl | rfl | rfl | rfl
    · exact hn _ (zfl (i := 13) rfl)
    · exact hn _ (zfl (i := 14) rfl)
    · exact hn _ (zfl (i := 15) rfl)
    · exact hn _ (zfl (i := 16) rfl)
  · intro j hj
    rcases (show j = 0 ∨ j = 1 ∨ j = 2 ∨ j = 3 ∨ j = 4 ∨ j = 5 by have hj : j < 6 := hj; omega) with rfl | rfl | rfl | rfl | rfl | rfl
    · exact hn _ (zfl (i := 21) rfl)
    · exact hn _ (zfl (i := 22) rfl)
    · exact hn _ (zfl (i := 23) rfl)
    · exact hn _ (zfl (i := 24) rfl)
    · exact hn _ (zfl (i := 25) rfl)
    · exact hn _ (zfl (i := 26) rfl)
  · intro j hj
    rcases (show j = 0 ∨ j = 1 ∨ j = 2 by have hj : j < 3 := hj; omega) with rfl | rfl | rfl
    · exact hn _ (zfl (i := 32) rfl)
    · exact hn _ (zfl (i := 33) rfl)
    · exact hn _ (zfl (i := 34) rfl)
  · intro j hj
    rcases (show j = 0 ∨ j = 1 ∨ j = 2 ∨ j = 3 by have hj : j < 4 := hj; omega) with rfl | rfl | rfl | rfl
    · exact hn _ (zfl (i := 41) rfl)
    · exact hn _ (zfl (i := 42) rfl)
    · exact hn _ (zfl (i := 43) rfl)
    · exact hn _ (zfl (i := 44) rfl)
  · intro j hj
    rcases (show j = 0 ∨ j = 1 ∨ j = 2 by have hj : j < 3 := hj; omega) with rfl | rfl | rfl
    · exact hn _ (zfl (i := 52) rfl)
    · exact hn _ (zfl (i := 53) rfl)
    · exact hn _ (zfl (i := 54) rfl)
  · intro j hj
    rcases (show j = 0 ∨ j = 1 ∨ j = 2 ∨ j = 3 ∨ j = 4 by have hj : j < 5 := hj; omega) with rfl | rfl | rfl | rfl | rfl
    · exact hn _ (zfl (i := 63) rfl)
    · exact hn _ (zfl (i := 64) rfl)
    · exact hn _ (zfl (i := 65) rfl)
    · exact hn _ (zfl (i := 66) rfl)
    · exact hn _ (zfl (i := 67) rfl)
  · intro j hj
    rcases (show j = 0 ∨ j = 1 ∨ j = 2 ∨ j = 3 ∨ j = 4 ∨ j = 5 by have hj : j < 6 := hj; omega) with rfl | rfl | rfl | rfl | rfl | rfl
    · exact hn _ (zfl (i := 77) rfl)
    · exact hn _ (zfl (i := 78) rfl)
    · exact hn _ (zfl (i := 79) rfl)
    · exact hn _ (zfl (i := 80) rfl)
    · exact hn _ (zfl (i := 81) rfl)
    · exact hn _ (zfl (i := 82) rfl)
  · intro j hj
    rcases (show j = 0 ∨ j = 1 ∨ j = 2 by have hj : j < 3 := hj; omega) with rfl | rfl | rfl
    · exact hn _ (zfl (i := 93) rfl)
    · exact hn _ (zfl (i := 94) rfl)
    · exact hn _ (zfl (i := 95) rfl)
  · intro j hj
    rcases (show j = 0 ∨ j = 1 ∨ j = 2 ∨ j = 3 ∨ j = 4 ∨ j = 5 ∨ j = 6 by have hj : j < 7 := hj; omega) with rfl | rfl | rfl | rfl | rfl | rfl | rfl
    · exact hn _ (zfl (i := 123) rfl)
    · exact hn _ (zfl (i := 124) rfl)
    · exact hn _ (zfl (i := 125) rfl)
    · exact hn _ (zfl (i := 126) rfl)
    · exact hn _ (zfl (i := 127) rfl)
    · exact hn _ (zfl (i := 128) rfl)
    · exact hn _ (zfl (i := 129) rfl)
  · intro j hj
    rcases (show j = 0 ∨ j = 1 ∨ j = 2 ∨ j = 3 by have hj : j < 4 := hj; omega) with rfl | rfl | rfl | rfl
    · exact hn _ (zfl (i := 143) rfl)
    · exact hn _ (zfl (i := 144) rfl)
    · exact hn _ (zfl (i := 145) rfl)
    · exact hn _ (zfl (i := 146) rfl)
  · intro j hj
    rcases (show j = 0 ∨ j = 1 ∨ j = 2 ∨ j = 3 by have hj : j < 4 := hj; omega) with rfl | rfl | rfl | rfl
    · exact hn _ (zfl (i := 161) rfl)
    · exact hn _ (zfl (i := 162) rfl)
    · exact hn _ (zfl (i := 163) rfl)
    · exact hn _ (zfl (i := 164) rfl)
theorem st_n_0_1 (hn : ∀ c ∈ flatC (Jvm.Cond.and given_1 narrow_1), c.before args s = true) : (Cond.not (Cond.eq (ztm 0) (ztm 1))).before args s = true := hn _ (zfl (i := 27) rfl)
theorem st_n_0_2 (hn : ∀ c ∈ flatC (Jvm.Cond.and given_1 narrow_1), c.before args s = true) : (Cond.not (Cond.eq (ztm 0) (ztm 2))).before args s = true := hn _ (zfl (i := 35) rfl)
theorem st_n_0_3 (hn : ∀ c ∈ flatC (Jvm.Cond.and given_1 narrow_1), c.before args s = true) : (Cond.not (Cond.eq (ztm 0) (ztm 3))).before args s = true := hn _ (zfl (i := 45) rfl)
theorem st_n_0_4 (hn : ∀ c ∈ flatC (Jvm.Cond.and given_1 narrow_1), c.before args s = true) : (Cond.not (Cond.eq (ztm 0) (ztm 4))).before args s = true := hn _ (zfl (i := 55) rfl)
theorem st_n_0_5 (hn : ∀ c ∈ flatC (Jvm.Cond.and given_1 narrow_1), c.before args s = true) : (Cond.not (Cond.eq (ztm 0) (ztm 5))).before args s = true := hn _ (zfl (i := 68) rfl)
theorem st_n_0_6 (hn : ∀ c ∈ flatC (Jvm.Cond.and given_1 narrow_1), c.before args s = true) : (Cond.not (Cond.eq (ztm 0) (ztm 6))).before args s = true := hn _ (zfl (i := 83) rfl)
theorem st_n_0_7 (hn : ∀ c ∈ flatC (Jvm.Cond.and given_1 narrow_1), c.before args s = true) : (Cond.not (Cond.eq (ztm 0) (ztm 7))).before args s = true := hn _ (zfl (i := 96) rfl)
theorem st_n_0_8 (hn : ∀ c ∈ flatC (Jvm.Cond.and given_1 narrow_1), c.before args s = true) : (Cond.not (Cond.eq (ztm 0) (ztm 8))).before args s = true := hn _ (zfl (i := 130) rfl)
theorem st_n_0_9 (hn : ∀ c ∈ flatC (Jvm.Cond.and given_1 narrow_1), c.before args s = true) : (Cond.not (Cond.eq (ztm 0) (ztm 9))).before args s = true := hn _ (zfl (i := 147) rfl)
theorem st_n_0_10 (hn : ∀ c ∈ flatC (Jvm.Cond.and given_1 narrow_1), c.before args s = true) : (Cond.not (Cond.eq (ztm 0) (ztm 10))).before args s = true := hn _ (zfl (i := 165) rfl)
theorem st_n_1_2 (hn : ∀ c ∈ flatC (Jvm.Cond.and given_1 narrow_1), c.before args s = true) : (Cond.not (Cond.eq (ztm 1) (ztm 2))).before args s = true := hn _ (zfl (i := 36) rfl)
theorem st_n_1_3 (hn : ∀ c ∈ flatC (Jvm.Cond.and given_1 narrow_1), c.before args s = true) : (Cond.not (Cond.eq (ztm 1) (ztm 3))).before args s = true := hn _ (zfl (i := 46) rfl)
theorem st_n_1_4 (hn : ∀ c ∈ flatC (Jvm.Cond.and given_1 narrow_1), c.before args s = true) : (Cond.not (Cond.eq (ztm 1) (ztm 4))).before args s = true := hn _ (zfl (i := 56) rfl)
theorem st_n_1_5 (hn : ∀ c ∈ flatC (Jvm.Cond.and given_1 narrow_1), c.before args s = true) : (Cond.not (Cond.eq (ztm 1) (ztm 5))).before args s = true := hn _ (zfl (i := 69) rfl)
theorem st_n_1_6 (hn : ∀ c ∈ flatC (Jvm.Cond.and given_1 narrow_1), c.before args s = true) : (Cond.not (Cond.eq (ztm 1) (ztm 6))).before args s = true := hn _ (zfl (i := 84) rfl)
theorem st_n_1_7 (hn : ∀ c ∈ flatC (Jvm.Cond.and given_1 narrow_1), c.before args s = true) : (Cond.not (Cond.eq (ztm 1) (ztm 7))).before args s = true := hn _ (zfl (i := 97) rfl)
theorem st_n_1_8 (hn : ∀ c ∈ flatC (Jvm.Cond.and given_1 narrow_1), c.before args s = true) : (Cond.not (Cond.eq (ztm 1) (ztm 8))).before args s = true := hn _ (zfl (i := 131) rfl)
theorem st_n_1_9 (hn : ∀ c ∈ flatC (Jvm.Cond.and given_1 narrow_1), c.before args s = true) : (Cond.not (Cond.eq (ztm 1) (ztm 9))).before args s = true := hn _ (zfl (i := 148) rfl)
theorem st_n_1_10 (hn : ∀ c ∈ flatC (Jvm.Cond.and given_1 narrow_1), c.before args s = true) : (Cond.not (Cond.eq (ztm 1) (ztm 10))).before args s = true := hn _ (zfl (i := 166) rfl)
theorem st_n_2_3 (hn : ∀ c ∈ flatC (Jvm.Cond.and given_1 narrow_1), c.before args s = true) : (Cond.not (Cond.eq (ztm 2) (ztm 3))).before args s = true := hn _ (zfl (i := 47) rfl)
theorem st_n_2_4 (hn : ∀ c ∈ flatC (Jvm.Cond.and given_1 narrow_1), c.before args s = true) : (Cond.not (Cond.eq (ztm 2) (ztm 4))).before args s = true := hn _ (zfl (i := 57) rfl)
theorem st_n_2_5 (hn : ∀ c ∈ flatC (Jvm.Cond.and given_1 narrow_1), c.before args s = true) : (Cond.not (Cond.eq (ztm 2) (ztm 5))).before args s = true := hn _ (zfl (i := 70) rfl)
theorem st_n_2_6 (hn : ∀ c ∈ flatC (Jvm.Cond.and given_1 narrow_1), c.before args s = true) : (Cond.not (Cond.eq (ztm 2) (ztm 6))).before args s = true := hn _ (zfl (i := 85) rfl)
theorem st_n_2_7 (hn : ∀ c ∈ flatC (Jvm.Cond.and given_1 narrow_1), c.before args s = true) : (Cond.not (Cond.eq (ztm 2) (ztm 7))).before args s = true := hn _ (zfl (i := 98) rfl)
theorem st_n_2_8 (hn : ∀ c ∈ flatC (Jvm.Cond.and given_1 narrow_1), c.before args s = true) : (Cond.not (Cond.eq (ztm 2) (ztm 8))).before args s = true := hn _ (zfl (i := 132) rfl)
theorem st_n_2_9 (hn : ∀ c ∈ flatC (Jvm.Cond.and given_1 narrow_1), c.before args s = true) : (Cond.not (Cond.eq (ztm 2) (ztm 9))).before args s = true := hn _ (zfl (i := 149) rfl)
theorem st_n_2_10 (hn : ∀ c ∈ flatC (Jvm.Cond.and given_1 narrow_1), c.before args s = true) : (Cond.not (Cond.eq (ztm 2) (ztm 10))).before args s = true := hn _ (zfl (i := 167) rfl)
theorem st_n_3_4 (hn : ∀ c ∈ flatC (Jvm.Cond.and given_1 narrow_1), c.before args s = true) : (Cond.not (Cond.eq (ztm 3) (ztm 4))).before args s = true := hn _ (zfl (i := 58) rfl)
theorem st_n_3_5 (hn : ∀ c ∈ flatC (Jvm.Cond.and given_1 narrow_1), c.before args s = true) : (Cond.not (Cond.eq (ztm 3) (ztm 5))).before args s = true := hn _ (zfl (i := 71) rfl)
theorem st_n_3_6 (hn : ∀ c ∈ flatC (Jvm.Cond.and given_1 narrow_1), c.before args s = true) : (Cond.not (Cond.eq (ztm 3) (ztm 6))).before args s = true := hn _ (zfl (i := 86) rfl)
theorem st_n_3_7 (hn : ∀ c ∈ flatC (Jvm.Cond.and given_1 narrow_1), c.before args s = true) : (Cond.not (Cond.eq (ztm 3) (ztm 7))).before args s = true := hn _ (zfl (i := 99) rfl)
theorem st_n_3_8 (hn : ∀ c ∈ flatC (Jvm.Cond.and given_1 narrow_1), c.before args s = true) : (Cond.not (Cond.eq (ztm 3) (ztm 8))).before args s = true := hn _ (zfl (i := 133) rfl)
theorem st_n_3_9 (hn : ∀ c ∈ flatC (Jvm.Cond.and given_1 narrow_1), c.before args s = true) : (Cond.not (Cond.eq (ztm 3) (ztm 9))).before args s = true := hn _ (zfl (i := 150) rfl)
theorem st_n_3_10 (hn : ∀ c ∈ flatC (Jvm.Cond.and given_1 narrow_1), c.before args s = true) : (Cond.not (Cond.eq (ztm 3) (ztm 10))).before args s = true := hn _ (zfl (i := 168) rfl)
theorem st_n_4_5 (hn : ∀ c ∈ flatC (Jvm.Cond.and given_1 narrow_1), c.before args s = true) : (Cond.not (Cond.eq (ztm 4) (ztm 5))).before args s = true := hn _ (zfl (i := 72) rfl)
theorem st_n_4_6 (hn : ∀ c ∈ flatC (Jvm.Cond.and given_1 narrow_1), c.before args s = true) : (Cond.not (Cond.eq (ztm 4) (ztm 6))).before args s = true := hn _ (zfl (i := 87) rfl)
theorem st_n_4_7 (hn : ∀ c ∈ flatC (Jvm.Cond.and given_1 narrow_1), c.before args s = true) : (Cond.not (Cond.eq (ztm 4) (ztm 7))).before args s = true := hn _ (zfl (i := 100) rfl)
theorem st_n_4_8 (hn : ∀ c ∈ flatC (Jvm.Cond.and given_1 narrow_1), c.before args s = true) : (Cond.not (Cond.eq (ztm 4) (ztm 8))).before args s = true := hn _ (zfl (i := 134) rfl)
theorem st_n_4_9 (hn : ∀ c ∈ flatC (Jvm.Cond.and given_1 narrow_1), c.before args s = true) : (Cond.not (Cond.eq (ztm 4) (ztm 9))).before args s = true := hn _ (zfl (i := 151) rfl)
theorem st_n_4_10 (hn : ∀ c ∈ flatC (Jvm.Cond.and given_1 narrow_1), c.before args s = true) : (Cond.not (Cond.eq (ztm 4) (ztm 10))).before args s = true := hn _ (zfl (i := 169) rfl)
theorem st_n_5_6 (hn : ∀ c ∈ flatC (Jvm.Cond.and given_1 narrow_1), c.before args s = true) : (Cond.not (Cond.eq (ztm 5) (ztm 6))).before args s = true := hn _ (zfl (i := 88) rfl)
theorem st_n_5_7 (hn : ∀ c ∈ flatC (Jvm.Cond.and given_1 narrow_1), c.before args s = true) : (Cond.not (Cond.eq (ztm 5) (ztm 7))).before args s = true := hn _ (zfl (i := 101) rfl)
theorem st_n_5_8 (hn : ∀ c ∈ flatC (Jvm.Cond.and given_1 narrow_1), c.before args s = true) : (Cond.not (Cond.eq (ztm 5) (ztm 8))).before args s = true := hn _ (zfl (i := 135) rfl)
theorem st_n_5_9 (hn : ∀ c ∈ flatC (Jvm.Cond.and given_1 narrow_1), c.before args s = true) : (Cond.not (Cond.eq (ztm 5) (ztm 9))).before args s = true := hn _ (zfl (i := 152) rfl)
theorem st_n_5_10 (hn : ∀ c ∈ flatC (Jvm.Cond.and given_1 narrow_1), c.before args s = true) : (Cond.not (Cond.eq (ztm 5) (ztm 10))).before args s = true := hn _ (zfl (i := 170) rfl)
theorem st_n_6_7 (hn : ∀ c ∈ flatC (Jvm.Cond.and given_1 narrow_1), c.before args s = true) : (Cond.not (Cond.eq (ztm 6) (ztm 7))).before args s = true := hn _ (zfl (i := 102) rfl)
theorem st_n_6_8 (hn : ∀ c ∈ flatC (Jvm.Cond.and given_1 narrow_1), c.before args s = true) : (Cond.not (Cond.eq (ztm 6) (ztm 8))).before args s = true := hn _ (zfl (i := 136) rfl)
theorem st_n_6_9 (hn : ∀ c ∈ flatC (Jvm.Cond.and given_1 narrow_1), c.before args s = true) : (Cond.not (Cond.eq (ztm 6) (ztm 9))).before args s = true := hn _ (zfl (i := 153) rfl)
theorem st_n_6_10 (hn : ∀ c ∈ flatC (Jvm.Cond.and given_1 narrow_1), c.before args s = true) : (Cond.not (Cond.eq (ztm 6) (ztm 10))).before args s = true := hn _ (zfl (i := 171) rfl)
theorem st_n_7_8 (hn : ∀ c ∈ flatC (Jvm.Cond.and given_1 narrow_1), c.before args s = true) : (Cond.not (Cond.eq (ztm 7) (ztm 8))).before args s = true := hn _ (zfl (i := 137) rfl)
theorem st_n_7_9 (hn : ∀ c ∈ flatC (Jvm.Cond.and given_1 narrow_1), c.before args s = true) : (Cond.not (Cond.eq (ztm 7) (ztm 9))).before args s = true := hn _ (zfl (i := 154) rfl)
theorem st_n_7_10 (hn : ∀ c ∈ flatC (Jvm.Cond.and given_1 narrow_1), c.before args s = true) : (Cond.not (Cond.eq (ztm 7) (ztm 10))).before args s = true := hn _ (zfl (i := 172) rfl)
theorem st_n_8_9 (hn : ∀ c ∈ flatC (Jvm.Cond.and given_1 narrow_1), c.before args s = true) : (Cond.not (Cond.eq (ztm 8) (ztm 9))).before args s = true := hn _ (zfl (i := 156) rfl)
theorem st_n_8_10 (hn : ∀ c ∈ flatC (Jvm.Cond.and given_1 narrow_1), c.before args s = true) : (Cond.not (Cond.eq (ztm 8) (ztm 10))).before args s = true := hn _ (zfl (i := 174) rfl)
theorem st_n_9_10 (hn : ∀ c ∈ flatC (Jvm.Cond.and given_1 narrow_1), c.before args s = true) : (Cond.not (Cond.eq (ztm 9) (ztm 10))).before args s = true := hn _ (zfl (i := 175) rfl)
theorem st_ne (hn : ∀ c ∈ flatC (Jvm.Cond.and given_1 narrow_1), c.before args s = true) : ∀ i j : Nat, i < 11 → j < 11 → i ≠ j → (Cond.not (Cond.eq (ztm i) (ztm j))).before args s = true ∨ (Cond.not (Cond.eq (ztm j) (ztm i))).before args s = true := by
  intro i j hi hj h
  rcases (show i = 0 ∨ i = 1 ∨ i = 2 ∨ i = 3 ∨ i = 4 ∨ i = 5 ∨ i = 6 ∨ i = 7 ∨ i = 8 ∨ i = 9 ∨ i = 10 by omega) with rfl | rfl | rfl | rfl | rfl | rfl | rfl | rfl | rfl | rfl | rfl
  · rcases (show j = 0 ∨ j = 1 ∨ j = 2 ∨ j = 3 ∨ j = 4 ∨ j = 5 ∨ j = 6 ∨ j = 7 ∨ j = 8 ∨ j = 9 ∨ j = 10 by omega) with rfl | rfl | rfl | rfl | rfl | rfl | rfl | rfl | rfl | rfl | rfl
    · exact absurd rfl h
    · exact Or.inl (st_n_0_1 hn)
    · exact Or.inl (st_n_0_2 hn)
    · exact Or.inl (st_n_0_3 hn)
    · exact Or.inl (st_n_0_4 hn)
    · exact Or.inl (st_n_0_5 hn)
    · exact Or.inl (st_n_0_6 hn)
    · exact Or.inl (st_n_0_7 hn)
    · exact Or.inl (st_n_0_8 hn)
    · exact Or.inl (st_n_0_9 hn)
    · exact Or.inl (st_n_0_10 hn)
  · rcases (show j = 0 ∨ j = 1 ∨ j = 2 ∨ j = 3 ∨ j = 4 ∨ j = 5 ∨ j = 6 ∨ j = 7 ∨ j = 8 ∨ j = 9 ∨ j = 10 by omega) with rfl | rfl | rfl | rfl | rfl | rfl | rfl | rfl | rfl | rfl | rfl
    · exact Or.inr (st_n_0_1 hn)
    · exact absurd rfl h
    · exact Or.inl (st_n_1_2 hn)
    · exact Or.inl (st_n_1_3 hn)
    · exact Or.inl (st_n_1_4 hn)
    · exact Or.inl (st_n_1_5 hn)
    · exact Or.inl (st_n_1_6 hn)
    · exact Or.inl (st_n_1_7 hn)
    · exact Or.inl (st_n_1_8 hn)
    · exact Or.inl (st_n_1_9 hn)
    · exact Or.inl (st_n_1_10 hn)
  · rcases (show j = 0 ∨ j = 1 ∨ j = 2 ∨ j = 3 ∨ j = 4 ∨ j = 5 ∨ j = 6 ∨ j = 7 ∨ j = 8 ∨ j = 9 ∨ j = 10 by omega) with rfl | rfl | rfl | rfl | rfl | rfl | rfl | rfl | rfl | rfl | rfl
    · exact Or.inr (st_n_0_2 hn)
    · exact Or.inr (st_n_1_2 hn)
    · exact absurd rfl h
    · exact Or.inl (st_n_2_3 hn)
    · exact Or.inl (st_n_2_4 hn)
    · exact Or.inl (st_n_2_5 hn)
    · exact Or.inl (st_n_2_6 hn)
    · exact Or.inl (st_n_2_7 hn)
    · exact Or.inl (st_n_2_8 hn)
    · exact Or.inl (st_n_2_9 hn)
    · exact Or.inl (st_n_2_10 hn)
  · rcases (show j = 0 ∨ j = 1 ∨ j = 2 ∨ j = 3 ∨ j = 4 ∨ j = 5 ∨ j = 6 ∨ j = 7 ∨ j = 8 ∨ j = 9 ∨ j = 10 by omega) with rfl | rfl | rfl | rfl | rfl | rfl | rfl | rfl | rfl | rfl | rfl
    · exact Or.inr (st_n_0_3 hn)
    · exact Or.inr (st_n_1_3 hn)
    · exact Or.inr (st_n_2_3 hn)
    · exact absurd rfl h
    · exact Or.inl (st_n_3_4 hn)
    · exact Or.inl (st_n_3_5 hn)
    · exact Or.inl (st_n_3_6 hn)
    · exact Or.inl (st_n_3_7 hn)
    · exact Or.inl (st_n_3_8 hn)
    · exact Or.inl (st_n_3_9 hn)
    · exact Or.inl (st_n_3_10 hn)
  · rcases (show j = 0 ∨ j = 1 ∨ j = 2 ∨ j = 3 ∨ j = 4 ∨ j = 5 ∨ j = 6 ∨ j = 7 ∨ j = 8 ∨ j = 9 ∨ j = 10 by omega) with rfl | rfl | rfl | rfl | rfl | rfl | rfl | rfl | rfl | rfl | rfl
    · exact Or.inr (st_n_0_4 hn)
    · exact Or.inr (st_n_1_4 hn)
    · exact Or.inr (st_n_2_4 hn)
    · exact Or.inr (st_n_3_4 hn)
    · exact absurd rfl h
    · exact Or.inl (st_n_4_5 hn)
    · exact Or.inl (st_n_4_6 hn)
    · exact Or.inl (st_n_4_7 hn)
    · exact Or.inl (st_n_4_8 hn)
    · exact Or.inl (st_n_4_9 hn)
    · exact Or.inl (st_n_4_10 hn)
  · rcases (show j = 0 ∨ j = 1 ∨ j = 2 ∨ j = 3 ∨ j = 4 ∨ j = 5 ∨ j = 6 ∨ j = 7 ∨ j = 8 ∨ j = 9 ∨ j = 10 by omega) with rfl | rfl | rfl | rfl | rfl | rfl | rfl | rfl | rfl | rfl | rfl
    · exact Or.inr (st_n_0_5 hn)
    · exact Or.inr (st_n_1_5 hn)
    · exact Or.inr (st_n_2_5 hn)
    · exact Or.inr (st_n_3_5 hn)
    · exact Or.inr (st_n_4_5 hn)
    · exact absurd rfl h
    · exact Or.inl (st_n_5_6 hn)
    · exact Or.inl (st_n_5_7 hn)
    · exact Or.inl (st_n_5_8 hn)
    · exact Or.inl (st_n_5_9 hn)
    · exact Or.inl (st_n_5_10 hn)
  · rcases (show j = 0 ∨ j = 1 ∨ j = 2 ∨ j = 3 ∨ j = 4 ∨ j = 5 ∨ j = 6 ∨ j = 7 ∨ j = 8 ∨ j = 9 ∨ j = 10 by omega) with rfl | rfl | rfl | rfl | rfl | rfl | rfl | rfl | rfl | rfl | rfl
    · exact Or.inr (st_n_0_6 hn)
    · exact Or.inr (st_n_1_6 hn)
    · exact Or.inr (st_n_2_6 hn)
    · exact Or.inr (st_n_3_6 hn)
    · exact Or.inr (st_n_4_6 hn)
    · exact Or.inr (st_n_5_6 hn)
    · exact absurd rfl h
    · exact Or.inl (st_n_6_7 hn)
    · exact Or.inl (st_n_6_8 hn)
    · exact Or.inl (st_n_6_9 hn)
    · exact Or.inl (st_n_6_10 hn)
  · rcases (show j = 0 ∨ j = 1 ∨ j = 2 ∨ j = 3 ∨ j = 4 ∨ j = 5 ∨ j = 6 ∨ j = 7 ∨ j = 8 ∨ j = 9 ∨ j = 10 by omega) with rfl | rfl | rfl | rfl | rfl | rfl | rfl | rfl | rfl | rfl | rfl
    · exact Or.inr (st_n_0_7 hn)
    · exact Or.inr (st_n_1_7 hn)
    · exact Or.inr (st_n_2_7 hn)
    · exact Or.inr (st_n_3_7 hn)
    · exact Or.inr (st_n_4_7 hn)
    · exact Or.inr (st_n_5_7 hn)
    · exact Or.inr (st_n_6_7 hn)
    · exact absurd rfl h
    · exact Or.inl (st_n_7_8 hn)
    · exact Or.inl (st_n_7_9 hn)
    · exact Or.inl (st_n_7_10 hn)
  · rcases (show j = 0 ∨ j = 1 ∨ j = 2 ∨ j = 3 ∨ j = 4 ∨ j = 5 ∨ j = 6 ∨ j = 7 ∨ j = 8 ∨ j = 9 ∨ j = 10 by omega) with rfl | rfl | rfl | rfl | rfl | rfl | rfl | rfl | rfl | rfl | rfl
    · exact Or.inr (st_n_0_8 hn)
    · exact Or.inr (st_n_1_8 hn)
    · exact Or.inr (st_n_2_8 hn)
    · exact Or.inr (st_n_3_8 hn)
    · exact Or.inr (st_n_4_8 hn)
    · exact Or.inr (st_n_5_8 hn)
    · exact Or.inr (st_n_6_8 hn)
    · exact Or.inr (st_n_7_8 hn)
    · exact absurd rfl h
    · exact Or.inl (st_n_8_9 hn)
    · exact Or.inl (st_n_8_10 hn)
  · rcases (show j = 0 ∨ j = 1 ∨ j = 2 ∨ j = 3 ∨ j = 4 ∨ j = 5 ∨ j = 6 ∨ j = 7 ∨ j = 8 ∨ j = 9 ∨ j = 10 by omega) with rfl | rfl | rfl | rfl | rfl | rfl | rfl | rfl | rfl | rfl | rfl
    · exact Or.inr (st_n_0_9 hn)
    · exact Or.inr (st_n_1_9 hn)
    · exact Or.inr (st_n_2_9 hn)
    · exact Or.inr (st_n_3_9 hn)
    · exact Or.inr (st_n_4_9 hn)
    · exact Or.inr (st_n_5_9 hn)
    · exact Or.inr (st_n_6_9 hn)
    · exact Or.inr (st_n_7_9 hn)
    · exact Or.inr (st_n_8_9 hn)
    · exact absurd rfl h
    · exact Or.inl (st_n_9_10 hn)
  · rcases (show j = 0 ∨ j = 1 ∨ j = 2 ∨ j = 3 ∨ j = 4 ∨ j = 5 ∨ j = 6 ∨ j = 7 ∨ j = 8 ∨ j = 9 ∨ j = 10 by omega) with rfl | rfl | rfl | rfl | rfl | rfl | rfl | rfl | rfl | rfl | rfl
    · exact Or.inr (st_n_0_10 hn)
    · exact Or.inr (st_n_1_10 hn)
    · exact Or.inr (st_n_2_10 hn)
    · exact Or.inr (st_n_3_10 hn)
    · exact Or.inr (st_n_4_10 hn)
    · exact Or.inr (st_n_5_10 hn)
    · exact Or.inr (st_n_6_10 hn)
    · exact Or.inr (st_n_7_10 hn)
    · exact Or.inr (st_n_8_10 hn)
    · exact Or.inr (st_n_9_10 hn)
    · exact absurd rfl h
theorem st_eqR {t u : Term} {a : Nat} (h : (Cond.eq t u).before args s = true) (k : t.eval args s none [] s = some (.ref a)) : u.eval args s none [] s = some (.ref a) := by
  cases hv : u.eval args s none [] s with
  | none => simp [Cond.before, Cond.holds, Cond.value, k, hv] at h
  | some w =>
    simp only [Cond.before, Cond.holds, Cond.value, k, hv] at h
    cases w <;> simp_all
theorem st_q_8 (hn : ∀ c ∈ flatC (Jvm.Cond.and given_1 narrow_1), c.before args s = true) {q : Nat} (k : (ztm 0).eval args s none [] s = some (.ref q)) : (Term.string "ApartGames$Scribe" 27).eval args s none [] s = some (.ref q) := st_eqR (hn _ (zfl (i := 111) rfl)) k
theorem st_q_12 (hn : ∀ c ∈ flatC (Jvm.Cond.and given_1 narrow_1), c.before args s = true) {q : Nat} (k : (ztm 0).eval args s none [] s = some (.ref q)) : (Term.string "ApartGamesModel" 151).eval args s none [] s = some (.ref q) := st_eqR (hn _ (zfl (i := 184) rfl)) k
theorem st_q_13 (hn : ∀ c ∈ flatC (Jvm.Cond.and given_1 narrow_1), c.before args s = true) {q : Nat} (k : (ztm 1).eval args s none [] s = some (.ref q)) : (Term.string "ApartGamesModel" 126).eval args s none [] s = some (.ref q) := st_eqR (hn _ (zfl (i := 207) rfl)) k
theorem st_q_14 (hn : ∀ c ∈ flatC (Jvm.Cond.and given_1 narrow_1), c.before args s = true) {q : Nat} (k : (ztm 2).eval args s none [] s = some (.ref q)) : (Term.string "ApartGamesModel" 132).eval args s none [] s = some (.ref q) := st_eqR (hn _ (zfl (i := 228) rfl)) k
theorem st_q_15 (hn : ∀ c ∈ flatC (Jvm.Cond.and given_1 narrow_1), c.before args s = true) {q : Nat} (k : (ztm 3).eval args s none [] s = some (.ref q)) : (Term.string "ApartGamesModel" 134).eval args s none [] s = some (.ref q) := st_eqR (hn _ (zfl (i := 251) rfl)) k
theorem st_q_16 (hn : ∀ c ∈ flatC (Jvm.Cond.and given_1 narrow_1), c.before args s = true) {q : Nat} (k : (ztm 4).eval args s none [] s = some (.ref q)) : (Term.string "ApartGamesModel" 136).eval args s none [] s = some (.ref q) := st_eqR (hn _ (zfl (i := 274) rfl)) k
theorem st_q_17 (hn : ∀ c ∈ flatC (Jvm.Cond.and given_1 narrow_1), c.before args s = true) {q : Nat} (k : (ztm 5).eval args s none [] s = some (.ref q)) : (Term.string "ApartGamesModel" 138).eval args s none [] s = some (.ref q) := st_eqR (hn _ (zfl (i := 300) rfl)) k
theorem st_q_18 (hn : ∀ c ∈ flatC (Jvm.Cond.and given_1 narrow_1), c.before args s = true) {q : Nat} (k : (ztm 6).eval args s none [] s = some (.ref q)) : (Term.string "ApartGamesModel" 140).eval args s none [] s = some (.ref q) := st_eqR (hn _ (zfl (i := 328) rfl)) k
theorem st_q_19 (hn : ∀ c ∈ flatC (Jvm.Cond.and given_1 narrow_1), c.before args s = true) {q : Nat} (k : (ztm 7).eval args s none [] s = some (.ref q)) : (Term.string "ApartGamesModel" 142).eval args s none [] s = some (.ref q) := st_eqR (hn _ (zfl (i := 354) rfl)) k
theorem st_q_20 (hn : ∀ c ∈ flatC (Jvm.Cond.and given_1 narrow_1), c.before args s = true) {q : Nat} (k : (ztm 8).eval args s none [] s = some (.ref q)) : (Term.string "ApartGamesModel" 405).eval args s none [] s = some (.ref q) := st_eqR (hn _ (zfl (i := 386) rfl)) k
theorem st_q_21 (hn : ∀ c ∈ flatC (Jvm.Cond.and given_1 narrow_1), c.before args s = true) {q : Nat} (k : (ztm 10).eval args s none [] s = some (.ref q)) : (Term.string "ApartGamesModel" 394).eval args s none [] s = some (.ref q) := st_eqR (hn _ (zfl (i := 416) rfl)) k
theorem st_q_22 (hn : ∀ c ∈ flatC (Jvm.Cond.and given_1 narrow_1), c.before args s = true) {q : Nat} (k : (ztm 9).eval args s none [] s = some (.ref q)) : (Term.string "ApartGamesModel" 396).eval args s none [] s = some (.ref q) := st_eqR (hn _ (zfl (i := 444) rfl)) k
set_option maxRecDepth 100000 in
theorem st_str (hn : ∀ c ∈ flatC (Jvm.Cond.and given_1 narrow_1), c.before args s = true) {adK : Nat → Nat} (hK : ∀ i : Nat, i < 11 → (ztm i).eval args s none [] s = some (.ref (adK i))) : ∀ w ∈ zStr, (Term.string w.1 w.2.1).eval args s none [] s = some (.ref (adK w.2.2.2)) := List.forall_mem_cons.mpr ⟨hK 0 (by decide), List.forall_mem_cons.mpr ⟨hK 1 (by decide), List.forall_mem_cons.mpr ⟨hK 2 (by decide), List.forall_mem_cons.mpr ⟨hK 3 (by decide), List.forall_mem_cons.mpr ⟨hK 4 (by decide), List.forall_mem_cons.mpr ⟨hK 5 (by decide), List.forall_mem_cons.mpr ⟨hK 6 (by decide), List.forall_mem_cons.mpr ⟨hK 7 (by decide), List.forall_mem_cons.mpr ⟨st_q_8 hn (hK 0 (by decide)), List.forall_mem_cons.mpr ⟨hK 8 (by decide), List.forall_mem_cons.mpr ⟨hK 9 (by decide), List.forall_mem_cons.mpr ⟨hK 10 (by decide), List.forall_mem_cons.mpr ⟨st_q_12 hn (hK 0 (by decide)), List.forall_mem_cons.mpr ⟨st_q_13 hn (hK 1 (by decide)), List.forall_mem_cons.mpr ⟨st_q_14 hn (hK 2 (by decide)), List.forall_mem_cons.mpr ⟨st_q_15 hn (hK 3 (by decide)), List.forall_mem_cons.mpr ⟨st_q_16 hn (hK 4 (by decide)), List.forall_mem_cons.mpr ⟨st_q_17 hn (hK 5 (by decide)), List.forall_mem_cons.mpr ⟨st_q_18 hn (hK 6 (by decide)), List.forall_mem_cons.mpr ⟨st_q_19 hn (hK 7 (by decide)), List.forall_mem_cons.mpr ⟨st_q_20 hn (hK 8 (by decide)), List.forall_mem_cons.mpr ⟨st_q_21 hn (hK 10 (by decide)), List.forall_mem_cons.mpr ⟨st_q_22 hn (hK 9 (by decide)), (fun _ h => absurd h List.not_mem_nil)⟩⟩⟩⟩⟩⟩⟩⟩⟩⟩⟩⟩⟩⟩⟩⟩⟩⟩⟩⟩⟩⟩⟩
/-- all that does not change stands at the start -/
theorem st_ZSf {A : Nat → Prop} {b L : Nat} {xs : Nat → Int32} (hts : ∀ w ∈ lw_tbl, w.before args s = true) (hn : ∀ c ∈ flatC (Jvm.Cond.and given_1 narrow_1), c.before args s = true) (hA : ∀ a : Nat, a < s.heap.size → ¬ A a) (hX : va_X b L xs s s.heap) (hbl : b < s.heap.size) : ∃ (aK aV : Nat → Nat) (t : Option Nat), ZSf (aK, aV, b, L, xs, t) A s s.heap := by
  obtain ⟨aK, aV, h1, h2⟩ := vk_Sof (s := s) (args := args) (N := zsN) (tm := ztm) (len := zsLen) (byt := zsByt) (A := A) zslen_lt (st_ex hn) (st_co hn) (st_ar hn) (st_le hn) (st_el hn) (st_ne hn) hA
  have h3 := st_str hn h2
  obtain ⟨v, v1, v2⟩ := Cond.isRef_spec (t := .static "jdk/internal/util/Preconditions" "SIOOBE_FORMATTER" "Ljava/util/function/BiFunction;") (show (Cond.isRef _).holds args s none s [] = true from hn _ (zfl (i := 5) rfl))
  have v3 : ∃ t : Option Nat, v = va_rf t := by
    cases v with
    | ref a => exact ⟨some a, rfl⟩
    | null => exact ⟨none, rfl⟩
    | _ => simp [Value.isRef] at v2
  obtain ⟨t, rfl⟩ := v3
  exact ⟨aK, aV, t, fun w hw => va_Nw.of rfl (hts _ (st_NM w hw)), fun w hw => va_Nw.of rfl (hts _ (st_NF w hw)), fun w hw => vk_R.of (hts _ (st_SR w hw)) (h3 w hw), h1, va_Zof (hts _ (zlw2 (i := 64) rfl)) (hts _ (zlw1 (i := 10) rfl)) (va_eqi (hn _ (zfl (i := 4) rfl))) hA, va_Zof (hts _ (zlw2 (i := 80) rfl)) (hts _ (zlw1 (i := 12) rfl)) v1 hA, hX, hbl, hA b hbl, va_AO.of (hts _ (zlw1 (i := 52) rfl))⟩
end START
