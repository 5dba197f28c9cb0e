/-! words of the tables, by their places -/
def kT : List Cond := lw_tbl.filter goodWord
theorem kT_in {w : Cond} (h : w ∈ lw_tbl) (hg : goodWord w = true) : w ∈ kT := List.mem_filter.mpr ⟨h, hg⟩
theorem kT_tb {w : Cond} (h : w ∈ kT) : w ∈ lw_tbl := (List.mem_filter.mp h).1
theorem gd_tbl {w : Cond} (h : w ∈ kT) : (w.onTables && w.keeps) = true ∨ ∃ ty, w = .arrayClass ty := good_of_word (List.mem_filter.mp h).2
abbrev kW (y : MethodName) (cc : ByteArray) (n : Nat) (ret : Option FieldType) : List Cond := Cond.code y cc n ret :: kT
theorem gdV {own : String} {ix : Nat} {C : String} {y : MethodName} {cc : ByteArray} {n : Nat} {ret : Option FieldType} (h1 : Cond.methodLink own ix y ∈ kT) (h2 : Cond.instanceMethod y ∈ kT) (h3 : Cond.selects C y y ∈ kT) (h4 : Cond.initialized C ∈ kT) (h5 : Cond.code y cc n ret ∈ kT) : GoodIn kT (wsV own ix C y (kW y cc n ret)) := by
  have hm : ∀ w ∈ wsV own ix C y (kW y cc n ret), w ∈ kT := by
    intro w hw
    rcases List.mem_append.mp hw with hw | hw
    · rcases List.mem_cons.mp hw with rfl | hw
      · exact h1
      rcases List.mem_cons.mp hw with rfl | hw
      · exact h2
      rcases List.mem_cons.mp hw with rfl | hw
      · exact h3
      rcases List.mem_cons.mp hw with rfl | hw
      · exact h4
      cases hw
    · rcases List.mem_cons.mp hw with rfl | hw
      · exact h5
      · exact hw
  exact fun w hw => ⟨hm w hw, gd_tbl (hm w hw)⟩
theorem gdS {own : String} {ix : Nat} {y : MethodName} {cc : ByteArray} {n : Nat} {ret : Option FieldType} (h1 : Cond.methodLink own ix y ∈ kT) (h2 : Cond.static y ∈ kT) (h4 : Cond.initialized y.cls ∈ kT) (h5 : Cond.code y cc n ret ∈ kT) : GoodIn kT (va_wsS own ix y (kW y cc n ret)) := by
  have hm : ∀ w ∈ va_wsS own ix y (kW y cc n ret), w ∈ kT := by
    intro w hw
    rcases List.mem_append.mp hw with hw | hw
    · rcases List.mem_cons.mp hw with rfl | hw
      · exact h1
      rcases List.mem_cons.mp hw with rfl | hw
      · exact h2
      rcases List.mem_cons.mp hw with rfl | hw
      · exact h4
      cases hw
    · rcases List.mem_cons.mp hw with rfl | hw
      · exact h5
      · exact hw
  exact fun w hw => ⟨hm w hw, gd_tbl (hm w hw)⟩
theorem gdI {y : MethodName} {cc : ByteArray} {n : Nat} {ret : Option FieldType} (h5 : Cond.code y cc n ret ∈ kT) : GoodIn kT (kW y cc n ret) := by
  intro w hw
  rcases List.mem_cons.mp hw with rfl | hw
  · exact ⟨h5, gd_tbl h5⟩
  · exact ⟨hw, gd_tbl hw⟩
theorem wI_X0a : ∀ w ∈ wsX00, w ∈ lw_tbl := by decide +kernel
theorem wI_X0b : ∀ w ∈ wsX00, goodWord w = true := by decide +kernel
theorem wI_X0 : ∀ w ∈ wsX00, w ∈ kT := fun w h => kT_in (wI_X0a w h) (wI_X0b w h)
theorem wI_X1a : ∀ w ∈ wsX10, w ∈ lw_tbl := by decide +kernel
theorem wI_X1b : ∀ w ∈ wsX10, goodWord w = true := by decide +kernel
theorem wI_X1 : ∀ w ∈ wsX10, w ∈ kT := fun w h => kT_in (wI_X1a w h) (wI_X1b w h)
theorem wn_X0 : Cond.initialized RX0 ∈ kT := kT_in (List.mem_of_getElem? (i := 34) (by decide +kernel)) rfl
theorem wn_X1 : Cond.initialized RX1 ∈ kT := kT_in (List.mem_of_getElem? (i := 35) (by decide +kernel)) rfl
theorem wc_X0_init : Cond.code yX0_init cX0_init 1 none ∈ kT := kT_in (List.mem_of_getElem? (i := 42) rfl) rfl
theorem wm_X0_init : Cond.instanceMethod yX0_init ∈ kT := kT_in (List.mem_of_getElem? (i := 41) (by decide +kernel)) rfl
theorem wc_X0_piece : Cond.code yX0_piece cX0_piece 4 (some .int) ∈ kT := kT_in (List.mem_of_getElem? (i := 85) rfl) rfl
theorem wm_X0_piece : Cond.instanceMethod yX0_piece ∈ kT := kT_in (List.mem_of_getElem? (i := 83) (by decide +kernel)) rfl
theorem wx_X0_piece : Cond.selects RX0 yX0_piece yX0_piece ∈ kT := kT_in (List.mem_of_getElem? (i := 84) (by decide +kernel)) rfl
theorem wc_X0_row : Cond.code yX0_row cX0_row 4 (some .int) ∈ kT := kT_in (List.mem_of_getElem? (i := 97) rfl) rfl
theorem wm_X0_row : Cond.instanceMethod yX0_row ∈ kT := kT_in (List.mem_of_getElem? (i := 95) (by decide +kernel)) rfl
theorem wx_X0_row : Cond.selects RX0 yX0_row yX0_row ∈ kT := kT_in (List.mem_of_getElem? (i := 96) (by decide +kernel)) rfl
theorem wc_X0_grid : Cond.code yX0_grid cX0_grid 6 (some .int) ∈ kT := kT_in (List.mem_of_getElem? (i := 123) rfl) rfl
theorem wm_X0_grid : Cond.instanceMethod yX0_grid ∈ kT := kT_in (List.mem_of_getElem? (i := 121) (by decide +kernel)) rfl
theorem wx_X0_grid : Cond.selects RX0 yX0_grid yX0_grid ∈ kT := kT_in (List.mem_of_getElem? (i := 122) (by decide +kernel)) rfl
theorem wc_X0_put : Cond.code yX0_put cX0_put 4 (some .int) ∈ kT := kT_in (List.mem_of_getElem? (i := 130) rfl) rfl
theorem wm_X0_put : Cond.instanceMethod yX0_put ∈ kT := kT_in (List.mem_of_getElem? (i := 128) (by decide +kernel)) rfl
theorem wx_X0_put : Cond.selects RX0 yX0_put yX0_put ∈ kT := kT_in (List.mem_of_getElem? (i := 129) (by decide +kernel)) rfl
theorem wc_X0_get : Cond.code yX0_get cX0_get 3 (some .int) ∈ kT := kT_in (List.mem_of_getElem? (i := 175) rfl) rfl
theorem wm_X0_get : Cond.instanceMethod yX0_get ∈ kT := kT_in (List.mem_of_getElem? (i := 173) (by decide +kernel)) rfl
theorem wx_X0_get : Cond.selects RX0 yX0_get yX0_get ∈ kT := kT_in (List.mem_of_getElem? (i := 174) (by decide +kernel)) rfl
theorem wc_X0_set : Cond.code yX0_set cX0_set 6 (some .int) ∈ kT := kT_in (List.mem_of_getElem? (i := 183) rfl) rfl
theorem wm_X0_set : Cond.instanceMethod yX0_set ∈ kT := kT_in (List.mem_of_getElem? (i := 181) (by decide +kernel)) rfl
theorem wx_X0_set : Cond.selects RX0 yX0_set yX0_set ∈ kT := kT_in (List.mem_of_getElem? (i := 182) (by decide +kernel)) rfl
theorem wc_X0_number : Cond.code yX0_number cX0_number 3 (some .long) ∈ kT := kT_in (List.mem_of_getElem? (i := 191) rfl) rfl
theorem wm_X0_number : Cond.instanceMethod yX0_number ∈ kT := kT_in (List.mem_of_getElem? (i := 189) (by decide +kernel)) rfl
theorem wx_X0_number : Cond.selects RX0 yX0_number yX0_number ∈ kT := kT_in (List.mem_of_getElem? (i := 190) (by decide +kernel)) rfl
theorem wc_X0_is : Cond.code yX0_is cX0_is 4 (some .int) ∈ kT := kT_in (List.mem_of_getElem? (i := 195) rfl) rfl
theorem wm_X0_is : Cond.instanceMethod yX0_is ∈ kT := kT_in (List.mem_of_getElem? (i := 193) (by decide +kernel)) rfl
theorem wx_X0_is : Cond.selects RX0 yX0_is yX0_is ∈ kT := kT_in (List.mem_of_getElem? (i := 194) (by decide +kernel)) rfl
theorem wc_X0_door : Cond.code yX0_door cX0_door 4 (some .int) ∈ kT := kT_in (List.mem_of_getElem? (i := 199) rfl) rfl
theorem wm_X0_door : Cond.instanceMethod yX0_door ∈ kT := kT_in (List.mem_of_getElem? (i := 197) (by decide +kernel)) rfl
theorem wx_X0_door : Cond.selects RX0 yX0_door yX0_door ∈ kT := kT_in (List.mem_of_getElem? (i := 198) (by decide +kernel)) rfl
theorem wc_X0_through : Cond.code yX0_through cX0_through 4 (some .int) ∈ kT := kT_in (List.mem_of_getElem? (i := 206) rfl) rfl
theorem wm_X0_through : Cond.instanceMethod yX0_through ∈ kT := kT_in (List.mem_of_getElem? (i := 204) (by decide +kernel)) rfl
theorem wx_X0_through : Cond.selects RX0 yX0_through yX0_through ∈ kT := kT_in (List.mem_of_getElem? (i := 205) (by decide +kernel)) rfl
theorem wc_X0_lastDoor : Cond.code yX0_lastDoor cX0_lastDoor 1 (some .int) ∈ kT := kT_in (List.mem_of_getElem? (i := 214) rfl) rfl
theorem wm_X0_lastDoor : Cond.instanceMethod yX0_lastDoor ∈ kT := kT_in (List.mem_of_getElem? (i := 212) (by decide +kernel)) rfl
theorem wx_X0_lastDoor : Cond.selects RX0 yX0_lastDoor yX0_lastDoor ∈ kT := kT_in (List.mem_of_getElem? (i := 213) (by decide +kernel)) rfl
theorem wc_X0_worth : Cond.code yX0_worth cX0_worth 2 (some .long) ∈ kT := kT_in (List.mem_of_getElem? (i := 218) rfl) rfl
theorem wm_X0_worth : Cond.instanceMethod yX0_worth ∈ kT := kT_in (List.mem_of_getElem? (i := 216) (by decide +kernel)) rfl
theorem wx_X0_worth : Cond.selects RX0 yX0_worth yX0_worth ∈ kT := kT_in (List.mem_of_getElem? (i := 217) (by decide +kernel)) rfl
theorem wc_X0_copy : Cond.code yX0_copy cX0_copy 3 (some .int) ∈ kT := kT_in (List.mem_of_getElem? (i := 232) rfl) rfl
theorem wm_X0_copy : Cond.instanceMethod yX0_copy ∈ kT := kT_in (List.mem_of_getElem? (i := 230) (by decide +kernel)) rfl
theorem wx_X0_copy : Cond.selects RX0 yX0_copy yX0_copy ∈ kT := kT_in (List.mem_of_getElem? (i := 231) (by decide +kernel)) rfl
theorem wc_X0_carry : Cond.code yX0_carry cX0_carry 7 (some .int) ∈ kT := kT_in (List.mem_of_getElem? (i := 243) rfl) rfl
theorem wm_X0_carry : Cond.instanceMethod yX0_carry ∈ kT := kT_in (List.mem_of_getElem? (i := 241) (by decide +kernel)) rfl
theorem wx_X0_carry : Cond.selects RX0 yX0_carry yX0_carry ∈ kT := kT_in (List.mem_of_getElem? (i := 242) (by decide +kernel)) rfl
theorem wc_X0_frail : Cond.code yX0_frail cX0_frail 2 (some .int) ∈ kT := kT_in (List.mem_of_getElem? (i := 259) rfl) rfl
theorem wm_X0_frail : Cond.instanceMethod yX0_frail ∈ kT := kT_in (List.mem_of_getElem? (i := 257) (by decide +kernel)) rfl
theorem wx_X0_frail : Cond.selects RX0 yX0_frail yX0_frail ∈ kT := kT_in (List.mem_of_getElem? (i := 258) (by decide +kernel)) rfl
theorem wc_X0_about : Cond.code yX0_about cX0_about 3 (some .int) ∈ kT := kT_in (List.mem_of_getElem? (i := 267) rfl) rfl
theorem wm_X0_about : Cond.instanceMethod yX0_about ∈ kT := kT_in (List.mem_of_getElem? (i := 265) (by decide +kernel)) rfl
theorem wx_X0_about : Cond.selects RX0 yX0_about yX0_about ∈ kT := kT_in (List.mem_of_getElem? (i := 266) (by decide +kernel)) rfl
theorem wc_X0_bases : Cond.code yX0_bases cX0_bases 2 (some .int) ∈ kT := kT_in (List.mem_of_getElem? (i := 271) rfl) rfl
theorem wm_X0_bases : Cond.instanceMethod yX0_bases ∈ kT := kT_in (List.mem_of_getElem? (i := 269) (by decide +kernel)) rfl
theorem wx_X0_bases : Cond.selects RX0 yX0_bases yX0_bases ∈ kT := kT_in (List.mem_of_getElem? (i := 270) (by decide +kernel)) rfl
theorem wc_X0_count : Cond.code yX0_count cX0_count 2 (some .int) ∈ kT := kT_in (List.mem_of_getElem? (i := 275) rfl) rfl
theorem wm_X0_count : Cond.instanceMethod yX0_count ∈ kT := kT_in (List.mem_of_getElem? (i := 273) (by decide +kernel)) rfl
theorem wx_X0_count : Cond.selects RX0 yX0_count yX0_count ∈ kT := kT_in (List.mem_of_getElem? (i := 274) (by decide +kernel)) rfl
theorem wc_X0_clear : Cond.code yX0_clear cX0_clear 3 (some .int) ∈ kT := kT_in (List.mem_of_getElem? (i := 279) rfl) rfl
theorem wm_X0_clear : Cond.instanceMethod yX0_clear ∈ kT := kT_in (List.mem_of_getElem? (i := 277) (by decide +kernel)) rfl
theorem wx_X0_clear : Cond.selects RX0 yX0_clear yX0_clear ∈ kT := kT_in (List.mem_of_getElem? (i := 278) (by decide +kernel)) rfl
theorem wc_X0_fail : Cond.code yX0_fail cX0_fail 2 (some .int) ∈ kT := kT_in (List.mem_of_getElem? (i := 107) rfl) rfl
theorem wm_X0_fail : Cond.instanceMethod yX0_fail ∈ kT := kT_in (List.mem_of_getElem? (i := 106) (by decide +kernel)) rfl
theorem wx_X0_fail : Cond.selects RX0 yX0_fail yX0_fail ∈ kT := kT_in (List.mem_of_getElem? (i := 2) (by decide +kernel)) rfl
theorem wc_X0_isThing : Cond.code yX0_isThing cX0_isThing 2 (some .boolean) ∈ kT := kT_in (List.mem_of_getElem? (i := 138) rfl) rfl
theorem wm_X0_isThing : Cond.instanceMethod yX0_isThing ∈ kT := kT_in (List.mem_of_getElem? (i := 137) (by decide +kernel)) rfl
theorem wx_X0_isThing : Cond.selects RX0 yX0_isThing yX0_isThing ∈ kT := kT_in (List.mem_of_getElem? (i := 6) (by decide +kernel)) rfl
theorem wc_X0_isThingOrNone : Cond.code yX0_isThingOrNone cX0_isThingOrNone 2 (some .boolean) ∈ kT := kT_in (List.mem_of_getElem? (i := 134) rfl) rfl
theorem wm_X0_isThingOrNone : Cond.instanceMethod yX0_isThingOrNone ∈ kT := kT_in (List.mem_of_getElem? (i := 133) (by decide +kernel)) rfl
theorem wx_X0_isThingOrNone : Cond.selects RX0 yX0_isThingOrNone yX0_isThingOrNone ∈ kT := kT_in (List.mem_of_getElem? (i := 5) (by decide +kernel)) rfl
theorem wc_X0_isDoor : Cond.code yX0_isDoor cX0_isDoor 1 (some .boolean) ∈ kT := kT_in (List.mem_of_getElem? (i := 202) rfl) rfl
theorem wt_X0_isDoor : Cond.static yX0_isDoor ∈ kT := kT_in (List.mem_of_getElem? (i := 201) (by decide +kernel)) rfl
theorem wc_X0_isNumberBase : Cond.code yX0_isNumberBase cX0_isNumberBase 1 (some .boolean) ∈ kT := kT_in (List.mem_of_getElem? (i := 103) rfl) rfl
theorem wt_X0_isNumberBase : Cond.static yX0_isNumberBase ∈ kT := kT_in (List.mem_of_getElem? (i := 102) (by decide +kernel)) rfl
theorem wc_X0_isKind : Cond.code yX0_isKind cX0_isKind 2 (some .boolean) ∈ kT := kT_in (List.mem_of_getElem? (i := 100) rfl) rfl
theorem wt_X0_isKind : Cond.static yX0_isKind ∈ kT := kT_in (List.mem_of_getElem? (i := 99) (by decide +kernel)) rfl
theorem wc_X0_isPiece : Cond.code yX0_isPiece cX0_isPiece 2 (some .boolean) ∈ kT := kT_in (List.mem_of_getElem? (i := 159) rfl) rfl
theorem wm_X0_isPiece : Cond.instanceMethod yX0_isPiece ∈ kT := kT_in (List.mem_of_getElem? (i := 158) (by decide +kernel)) rfl
theorem wx_X0_isPiece : Cond.selects RX0 yX0_isPiece yX0_isPiece ∈ kT := kT_in (List.mem_of_getElem? (i := 10) (by decide +kernel)) rfl
theorem wc_X0_isLedger : Cond.code yX0_isLedger cX0_isLedger 2 (some .boolean) ∈ kT := kT_in (List.mem_of_getElem? (i := 115) rfl) rfl
theorem wm_X0_isLedger : Cond.instanceMethod yX0_isLedger ∈ kT := kT_in (List.mem_of_getElem? (i := 114) (by decide +kernel)) rfl
theorem wx_X0_isLedger : Cond.selects RX0 yX0_isLedger yX0_isLedger ∈ kT := kT_in (List.mem_of_getElem? (i := 4) (by decide +kernel)) rfl
theorem wc_X0_holdsThings : Cond.code yX0_holdsThings cX0_holdsThings 2 (some .boolean) ∈ kT := kT_in (List.mem_of_getElem? (i := 155) rfl) rfl
theorem wm_X0_holdsThings : Cond.instanceMethod yX0_holdsThings ∈ kT := kT_in (List.mem_of_getElem? (i := 154) (by decide +kernel)) rfl
theorem wx_X0_holdsThings : Cond.selects RX0 yX0_holdsThings yX0_holdsThings ∈ kT := kT_in (List.mem_of_getElem? (i := 9) (by decide +kernel)) rfl
theorem wc_X0_goesFor : Cond.code yX0_goesFor cX0_goesFor 2 (some .boolean) ∈ kT := kT_in (List.mem_of_getElem? (i := 149) rfl) rfl
theorem wt_X0_goesFor : Cond.static yX0_goesFor ∈ kT := kT_in (List.mem_of_getElem? (i := 148) (by decide +kernel)) rfl
theorem wc_X0_isOfKind : Cond.code yX0_isOfKind cX0_isOfKind 4 (some .boolean) ∈ kT := kT_in (List.mem_of_getElem? (i := 146) rfl) rfl
theorem wm_X0_isOfKind : Cond.instanceMethod yX0_isOfKind ∈ kT := kT_in (List.mem_of_getElem? (i := 145) (by decide +kernel)) rfl
theorem wx_X0_isOfKind : Cond.selects RX0 yX0_isOfKind yX0_isOfKind ∈ kT := kT_in (List.mem_of_getElem? (i := 8) (by decide +kernel)) rfl
theorem wc_X0_mayPass : Cond.code yX0_mayPass cX0_mayPass 4 (some .boolean) ∈ kT := kT_in (List.mem_of_getElem? (i := 142) rfl) rfl
theorem wm_X0_mayPass : Cond.instanceMethod yX0_mayPass ∈ kT := kT_in (List.mem_of_getElem? (i := 141) (by decide +kernel)) rfl
theorem wx_X0_mayPass : Cond.selects RX0 yX0_mayPass yX0_mayPass ∈ kT := kT_in (List.mem_of_getElem? (i := 7) (by decide +kernel)) rfl
theorem wc_X0_goesInto : Cond.code yX0_goesInto cX0_goesInto 3 (some .boolean) ∈ kT := kT_in (List.mem_of_getElem? (i := 171) rfl) rfl
theorem wm_X0_goesInto : Cond.instanceMethod yX0_goesInto ∈ kT := kT_in (List.mem_of_getElem? (i := 170) (by decide +kernel)) rfl
theorem wx_X0_goesInto : Cond.selects RX0 yX0_goesInto yX0_goesInto ∈ kT := kT_in (List.mem_of_getElem? (i := 13) (by decide +kernel)) rfl
theorem wc_X0_widestBase : Cond.code yX0_widestBase cX0_widestBase 2 (some .int) ∈ kT := kT_in (List.mem_of_getElem? (i := 163) rfl) rfl
theorem wm_X0_widestBase : Cond.instanceMethod yX0_widestBase ∈ kT := kT_in (List.mem_of_getElem? (i := 162) (by decide +kernel)) rfl
theorem wx_X0_widestBase : Cond.selects RX0 yX0_widestBase yX0_widestBase ∈ kT := kT_in (List.mem_of_getElem? (i := 11) (by decide +kernel)) rfl
theorem wc_X0_hasPlace : Cond.code yX0_hasPlace cX0_hasPlace 3 (some .boolean) ∈ kT := kT_in (List.mem_of_getElem? (i := 167) rfl) rfl
theorem wm_X0_hasPlace : Cond.instanceMethod yX0_hasPlace ∈ kT := kT_in (List.mem_of_getElem? (i := 166) (by decide +kernel)) rfl
theorem wx_X0_hasPlace : Cond.selects RX0 yX0_hasPlace yX0_hasPlace ∈ kT := kT_in (List.mem_of_getElem? (i := 12) (by decide +kernel)) rfl
theorem wc_X0_hasPlaces : Cond.code yX0_hasPlaces cX0_hasPlaces 4 (some .boolean) ∈ kT := kT_in (List.mem_of_getElem? (i := 251) rfl) rfl
theorem wm_X0_hasPlaces : Cond.instanceMethod yX0_hasPlaces ∈ kT := kT_in (List.mem_of_getElem? (i := 250) (by decide +kernel)) rfl
theorem wx_X0_hasPlaces : Cond.selects RX0 yX0_hasPlaces yX0_hasPlaces ∈ kT := kT_in (List.mem_of_getElem? (i := 21) (by decide +kernel)) rfl
theorem wc_X0_placeIndex : Cond.code yX0_placeIndex cX0_placeIndex 2 (some .int) ∈ kT := kT_in (List.mem_of_getElem? (i := 119) rfl) rfl
theorem wt_X0_placeIndex : Cond.static yX0_placeIndex ∈ kT := kT_in (List.mem_of_getElem? (i := 118) (by decide +kernel)) rfl
theorem wc_X0_thingAt : Cond.code yX0_thingAt cX0_thingAt 3 (some .int) ∈ kT := kT_in (List.mem_of_getElem? (i := 179) rfl) rfl
theorem wm_X0_thingAt : Cond.instanceMethod yX0_thingAt ∈ kT := kT_in (List.mem_of_getElem? (i := 178) (by decide +kernel)) rfl
theorem wx_X0_thingAt : Cond.selects RX0 yX0_thingAt yX0_thingAt ∈ kT := kT_in (List.mem_of_getElem? (i := 14) (by decide +kernel)) rfl
theorem wc_X0_ledgerFailure : Cond.code yX0_ledgerFailure cX0_ledgerFailure 3 (some .int) ∈ kT := kT_in (List.mem_of_getElem? (i := 187) rfl) rfl
theorem wm_X0_ledgerFailure : Cond.instanceMethod yX0_ledgerFailure ∈ kT := kT_in (List.mem_of_getElem? (i := 186) (by decide +kernel)) rfl
theorem wx_X0_ledgerFailure : Cond.selects RX0 yX0_ledgerFailure yX0_ledgerFailure ∈ kT := kT_in (List.mem_of_getElem? (i := 15) (by decide +kernel)) rfl
theorem wc_X0_hasRoomFor : Cond.code yX0_hasRoomFor cX0_hasRoomFor 2 (some .boolean) ∈ kT := kT_in (List.mem_of_getElem? (i := 89) rfl) rfl
theorem wm_X0_hasRoomFor : Cond.instanceMethod yX0_hasRoomFor ∈ kT := kT_in (List.mem_of_getElem? (i := 88) (by decide +kernel)) rfl
theorem wx_X0_hasRoomFor : Cond.selects RX0 yX0_hasRoomFor yX0_hasRoomFor ∈ kT := kT_in (List.mem_of_getElem? (i := 0) (by decide +kernel)) rfl
theorem wc_X0_addThing : Cond.code yX0_addThing cX0_addThing 5 (some .int) ∈ kT := kT_in (List.mem_of_getElem? (i := 93) rfl) rfl
theorem wm_X0_addThing : Cond.instanceMethod yX0_addThing ∈ kT := kT_in (List.mem_of_getElem? (i := 92) (by decide +kernel)) rfl
theorem wx_X0_addThing : Cond.selects RX0 yX0_addThing yX0_addThing ∈ kT := kT_in (List.mem_of_getElem? (i := 1) (by decide +kernel)) rfl
theorem wc_X0_addRow : Cond.code yX0_addRow cX0_addRow 8 (some .int) ∈ kT := kT_in (List.mem_of_getElem? (i := 111) rfl) rfl
theorem wm_X0_addRow : Cond.instanceMethod yX0_addRow ∈ kT := kT_in (List.mem_of_getElem? (i := 110) (by decide +kernel)) rfl
theorem wx_X0_addRow : Cond.selects RX0 yX0_addRow yX0_addRow ∈ kT := kT_in (List.mem_of_getElem? (i := 3) (by decide +kernel)) rfl
theorem wc_X0_firstClosedDoor : Cond.code yX0_firstClosedDoor cX0_firstClosedDoor 5 (some .int) ∈ kT := kT_in (List.mem_of_getElem? (i := 210) rfl) rfl
theorem wm_X0_firstClosedDoor : Cond.instanceMethod yX0_firstClosedDoor ∈ kT := kT_in (List.mem_of_getElem? (i := 209) (by decide +kernel)) rfl
theorem wx_X0_firstClosedDoor : Cond.selects RX0 yX0_firstClosedDoor yX0_firstClosedDoor ∈ kT := kT_in (List.mem_of_getElem? (i := 16) (by decide +kernel)) rfl
theorem wc_X0_areAlike : Cond.code yX0_areAlike cX0_areAlike 3 (some .boolean) ∈ kT := kT_in (List.mem_of_getElem? (i := 247) rfl) rfl
theorem wm_X0_areAlike : Cond.instanceMethod yX0_areAlike ∈ kT := kT_in (List.mem_of_getElem? (i := 246) (by decide +kernel)) rfl
theorem wx_X0_areAlike : Cond.selects RX0 yX0_areAlike yX0_areAlike ∈ kT := kT_in (List.mem_of_getElem? (i := 20) (by decide +kernel)) rfl
theorem wc_X0_countGoing : Cond.code yX0_countGoing cX0_countGoing 6 (some .int) ∈ kT := kT_in (List.mem_of_getElem? (i := 255) rfl) rfl
theorem wm_X0_countGoing : Cond.instanceMethod yX0_countGoing ∈ kT := kT_in (List.mem_of_getElem? (i := 254) (by decide +kernel)) rfl
theorem wx_X0_countGoing : Cond.selects RX0 yX0_countGoing yX0_countGoing ∈ kT := kT_in (List.mem_of_getElem? (i := 22) (by decide +kernel)) rfl
theorem wc_X0_movePlaces : Cond.code yX0_movePlaces cX0_movePlaces 6 none ∈ kT := kT_in (List.mem_of_getElem? (i := 236) rfl) rfl
theorem wm_X0_movePlaces : Cond.instanceMethod yX0_movePlaces ∈ kT := kT_in (List.mem_of_getElem? (i := 235) (by decide +kernel)) rfl
theorem wx_X0_movePlaces : Cond.selects RX0 yX0_movePlaces yX0_movePlaces ∈ kT := kT_in (List.mem_of_getElem? (i := 19) (by decide +kernel)) rfl
theorem wc_X0_worthWithin : Cond.code yX0_worthWithin cX0_worthWithin 6 (some .long) ∈ kT := kT_in (List.mem_of_getElem? (i := 222) rfl) rfl
theorem wm_X0_worthWithin : Cond.instanceMethod yX0_worthWithin ∈ kT := kT_in (List.mem_of_getElem? (i := 221) (by decide +kernel)) rfl
theorem wx_X0_worthWithin : Cond.selects RX0 yX0_worthWithin yX0_worthWithin ∈ kT := kT_in (List.mem_of_getElem? (i := 17) (by decide +kernel)) rfl
theorem wc_X0_worthOfPiece : Cond.code yX0_worthOfPiece cX0_worthOfPiece 4 (some .long) ∈ kT := kT_in (List.mem_of_getElem? (i := 226) rfl) rfl
theorem wm_X0_worthOfPiece : Cond.instanceMethod yX0_worthOfPiece ∈ kT := kT_in (List.mem_of_getElem? (i := 225) (by decide +kernel)) rfl
theorem wx_X0_worthOfPiece : Cond.selects RX0 yX0_worthOfPiece yX0_worthOfPiece ∈ kT := kT_in (List.mem_of_getElem? (i := 18) (by decide +kernel)) rfl
theorem wc_X0_frailWithin : Cond.code yX0_frailWithin cX0_frailWithin 5 (some .int) ∈ kT := kT_in (List.mem_of_getElem? (i := 263) rfl) rfl
theorem wm_X0_frailWithin : Cond.instanceMethod yX0_frailWithin ∈ kT := kT_in (List.mem_of_getElem? (i := 262) (by decide +kernel)) rfl
theorem wx_X0_frailWithin : Cond.selects RX0 yX0_frailWithin yX0_frailWithin ∈ kT := kT_in (List.mem_of_getElem? (i := 23) (by decide +kernel)) rfl
theorem wc_X1_init : Cond.code yX1_init cX1_init 1 none ∈ kT := kT_in (List.mem_of_getElem? (i := 284) rfl) rfl
theorem wm_X1_init : Cond.instanceMethod yX1_init ∈ kT := kT_in (List.mem_of_getElem? (i := 283) (by decide +kernel)) rfl
theorem wc_X1_isIn : Cond.code yX1_isIn cX1_isIn 3 (some .boolean) ∈ kT := kT_in (List.mem_of_getElem? (i := 341) rfl) rfl
theorem wt_X1_isIn : Cond.static yX1_isIn ∈ kT := kT_in (List.mem_of_getElem? (i := 340) (by decide +kernel)) rfl
theorem wc_X1_fails : Cond.code yX1_fails cX1_fails 2 (some .int) ∈ kT := kT_in (List.mem_of_getElem? (i := 356) rfl) rfl
theorem wm_X1_fails : Cond.instanceMethod yX1_fails ∈ kT := kT_in (List.mem_of_getElem? (i := 355) (by decide +kernel)) rfl
theorem wx_X1_fails : Cond.selects RX1 yX1_fails yX1_fails ∈ kT := kT_in (List.mem_of_getElem? (i := 25) (by decide +kernel)) rfl
theorem wc_X1_isThing : Cond.code yX1_isThing cX1_isThing 2 (some .boolean) ∈ kT := kT_in (List.mem_of_getElem? (i := 422) rfl) rfl
theorem wm_X1_isThing : Cond.instanceMethod yX1_isThing ∈ kT := kT_in (List.mem_of_getElem? (i := 421) (by decide +kernel)) rfl
theorem wx_X1_isThing : Cond.selects RX1 yX1_isThing yX1_isThing ∈ kT := kT_in (List.mem_of_getElem? (i := 30) (by decide +kernel)) rfl
theorem wc_X1_mayBe : Cond.code yX1_mayBe cX1_mayBe 2 (some .boolean) ∈ kT := kT_in (List.mem_of_getElem? (i := 368) rfl) rfl
theorem wm_X1_mayBe : Cond.instanceMethod yX1_mayBe ∈ kT := kT_in (List.mem_of_getElem? (i := 367) (by decide +kernel)) rfl
theorem wx_X1_mayBe : Cond.selects RX1 yX1_mayBe yX1_mayBe ∈ kT := kT_in (List.mem_of_getElem? (i := 26) (by decide +kernel)) rfl
theorem wc_X1_goesFor : Cond.code yX1_goesFor cX1_goesFor 2 (some .boolean) ∈ kT := kT_in (List.mem_of_getElem? (i := 375) rfl) rfl
theorem wt_X1_goesFor : Cond.static yX1_goesFor ∈ kT := kT_in (List.mem_of_getElem? (i := 374) (by decide +kernel)) rfl
theorem wc_X1_isSuch : Cond.code yX1_isSuch cX1_isSuch 4 (some .boolean) ∈ kT := kT_in (List.mem_of_getElem? (i := 372) rfl) rfl
theorem wm_X1_isSuch : Cond.instanceMethod yX1_isSuch ∈ kT := kT_in (List.mem_of_getElem? (i := 371) (by decide +kernel)) rfl
theorem wx_X1_isSuch : Cond.selects RX1 yX1_isSuch yX1_isSuch ∈ kT := kT_in (List.mem_of_getElem? (i := 27) (by decide +kernel)) rfl
theorem wc_X1_isLedger : Cond.code yX1_isLedger cX1_isLedger 2 (some .boolean) ∈ kT := kT_in (List.mem_of_getElem? (i := 379) rfl) rfl
theorem wm_X1_isLedger : Cond.instanceMethod yX1_isLedger ∈ kT := kT_in (List.mem_of_getElem? (i := 378) (by decide +kernel)) rfl
theorem wx_X1_isLedger : Cond.selects RX1 yX1_isLedger yX1_isLedger ∈ kT := kT_in (List.mem_of_getElem? (i := 28) (by decide +kernel)) rfl
theorem wc_X1_make : Cond.code yX1_make cX1_make 7 (some .int) ∈ kT := kT_in (List.mem_of_getElem? (i := 345) rfl) rfl
theorem wm_X1_make : Cond.instanceMethod yX1_make ∈ kT := kT_in (List.mem_of_getElem? (i := 344) (by decide +kernel)) rfl
theorem wx_X1_make : Cond.selects RX1 yX1_make yX1_make ∈ kT := kT_in (List.mem_of_getElem? (i := 24) (by decide +kernel)) rfl
theorem wc_X1_piece : Cond.code yX1_piece cX1_piece 3 (some .int) ∈ kT := kT_in (List.mem_of_getElem? (i := 338) rfl) rfl
theorem wm_X1_piece : Cond.instanceMethod yX1_piece ∈ kT := kT_in (List.mem_of_getElem? (i := 336) (by decide +kernel)) rfl
theorem wx_X1_piece : Cond.selects RX1 yX1_piece yX1_piece ∈ kT := kT_in (List.mem_of_getElem? (i := 337) (by decide +kernel)) rfl
theorem wc_X1_isShape : Cond.code yX1_isShape cX1_isShape 2 (some .boolean) ∈ kT := kT_in (List.mem_of_getElem? (i := 352) rfl) rfl
theorem wt_X1_isShape : Cond.static yX1_isShape ∈ kT := kT_in (List.mem_of_getElem? (i := 351) (by decide +kernel)) rfl
theorem wc_X1_row : Cond.code yX1_row cX1_row 4 (some .int) ∈ kT := kT_in (List.mem_of_getElem? (i := 349) rfl) rfl
theorem wm_X1_row : Cond.instanceMethod yX1_row ∈ kT := kT_in (List.mem_of_getElem? (i := 347) (by decide +kernel)) rfl
theorem wx_X1_row : Cond.selects RX1 yX1_row yX1_row ∈ kT := kT_in (List.mem_of_getElem? (i := 348) (by decide +kernel)) rfl
theorem wc_X1_grid : Cond.code yX1_grid cX1_grid 6 (some .int) ∈ kT := kT_in (List.mem_of_getElem? (i := 360) rfl) rfl
theorem wm_X1_grid : Cond.instanceMethod yX1_grid ∈ kT := kT_in (List.mem_of_getElem? (i := 358) (by decide +kernel)) rfl
theorem wx_X1_grid : Cond.selects RX1 yX1_grid yX1_grid ∈ kT := kT_in (List.mem_of_getElem? (i := 359) (by decide +kernel)) rfl
theorem wc_X1_put : Cond.code yX1_put cX1_put 5 (some .int) ∈ kT := kT_in (List.mem_of_getElem? (i := 364) rfl) rfl
theorem wm_X1_put : Cond.instanceMethod yX1_put ∈ kT := kT_in (List.mem_of_getElem? (i := 362) (by decide +kernel)) rfl
theorem wx_X1_put : Cond.selects RX1 yX1_put yX1_put ∈ kT := kT_in (List.mem_of_getElem? (i := 363) (by decide +kernel)) rfl
theorem wc_X1_get : Cond.code yX1_get cX1_get 3 (some .int) ∈ kT := kT_in (List.mem_of_getElem? (i := 383) rfl) rfl
theorem wm_X1_get : Cond.instanceMethod yX1_get ∈ kT := kT_in (List.mem_of_getElem? (i := 381) (by decide +kernel)) rfl
theorem wx_X1_get : Cond.selects RX1 yX1_get yX1_get ∈ kT := kT_in (List.mem_of_getElem? (i := 382) (by decide +kernel)) rfl
theorem wc_X1_refused : Cond.code yX1_refused cX1_refused 3 (some .int) ∈ kT := kT_in (List.mem_of_getElem? (i := 391) rfl) rfl
theorem wm_X1_refused : Cond.instanceMethod yX1_refused ∈ kT := kT_in (List.mem_of_getElem? (i := 390) (by decide +kernel)) rfl
theorem wx_X1_refused : Cond.selects RX1 yX1_refused yX1_refused ∈ kT := kT_in (List.mem_of_getElem? (i := 29) (by decide +kernel)) rfl
theorem wc_X1_set : Cond.code yX1_set cX1_set 6 (some .int) ∈ kT := kT_in (List.mem_of_getElem? (i := 387) rfl) rfl
theorem wm_X1_set : Cond.instanceMethod yX1_set ∈ kT := kT_in (List.mem_of_getElem? (i := 385) (by decide +kernel)) rfl
theorem wx_X1_set : Cond.selects RX1 yX1_set yX1_set ∈ kT := kT_in (List.mem_of_getElem? (i := 386) (by decide +kernel)) rfl
theorem wc_X1_number : Cond.code yX1_number cX1_number 3 (some .long) ∈ kT := kT_in (List.mem_of_getElem? (i := 395) rfl) rfl
theorem wm_X1_number : Cond.instanceMethod yX1_number ∈ kT := kT_in (List.mem_of_getElem? (i := 393) (by decide +kernel)) rfl
theorem wx_X1_number : Cond.selects RX1 yX1_number yX1_number ∈ kT := kT_in (List.mem_of_getElem? (i := 394) (by decide +kernel)) rfl
theorem wc_X1_isAsked : Cond.code yX1_isAsked cX1_isAsked 2 (some .boolean) ∈ kT := kT_in (List.mem_of_getElem? (i := 402) rfl) rfl
theorem wt_X1_isAsked : Cond.static yX1_isAsked ∈ kT := kT_in (List.mem_of_getElem? (i := 401) (by decide +kernel)) rfl
theorem wc_X1_is : Cond.code yX1_is cX1_is 4 (some .int) ∈ kT := kT_in (List.mem_of_getElem? (i := 399) rfl) rfl
theorem wm_X1_is : Cond.instanceMethod yX1_is ∈ kT := kT_in (List.mem_of_getElem? (i := 397) (by decide +kernel)) rfl
theorem wx_X1_is : Cond.selects RX1 yX1_is yX1_is ∈ kT := kT_in (List.mem_of_getElem? (i := 398) (by decide +kernel)) rfl
theorem wc_X1_door : Cond.code yX1_door cX1_door 4 (some .int) ∈ kT := kT_in (List.mem_of_getElem? (i := 406) rfl) rfl
theorem wm_X1_door : Cond.instanceMethod yX1_door ∈ kT := kT_in (List.mem_of_getElem? (i := 404) (by decide +kernel)) rfl
theorem wx_X1_door : Cond.selects RX1 yX1_door yX1_door ∈ kT := kT_in (List.mem_of_getElem? (i := 405) (by decide +kernel)) rfl
theorem wc_X1_through : Cond.code yX1_through cX1_through 5 (some .int) ∈ kT := kT_in (List.mem_of_getElem? (i := 410) rfl) rfl
theorem wm_X1_through : Cond.instanceMethod yX1_through ∈ kT := kT_in (List.mem_of_getElem? (i := 408) (by decide +kernel)) rfl
theorem wx_X1_through : Cond.selects RX1 yX1_through yX1_through ∈ kT := kT_in (List.mem_of_getElem? (i := 409) (by decide +kernel)) rfl
theorem wc_X1_lastDoor : Cond.code yX1_lastDoor cX1_lastDoor 1 (some .int) ∈ kT := kT_in (List.mem_of_getElem? (i := 414) rfl) rfl
theorem wm_X1_lastDoor : Cond.instanceMethod yX1_lastDoor ∈ kT := kT_in (List.mem_of_getElem? (i := 412) (by decide +kernel)) rfl
theorem wx_X1_lastDoor : Cond.selects RX1 yX1_lastDoor yX1_lastDoor ∈ kT := kT_in (List.mem_of_getElem? (i := 413) (by decide +kernel)) rfl
theorem wc_X1_addUp : Cond.code yX1_addUp cX1_addUp 3 none ∈ kT := kT_in (List.mem_of_getElem? (i := 426) rfl) rfl
theorem wm_X1_addUp : Cond.instanceMethod yX1_addUp ∈ kT := kT_in (List.mem_of_getElem? (i := 425) (by decide +kernel)) rfl
theorem wx_X1_addUp : Cond.selects RX1 yX1_addUp yX1_addUp ∈ kT := kT_in (List.mem_of_getElem? (i := 31) (by decide +kernel)) rfl
theorem wc_X1_addOne : Cond.code yX1_addOne cX1_addOne 7 none ∈ kT := kT_in (List.mem_of_getElem? (i := 430) rfl) rfl
theorem wm_X1_addOne : Cond.instanceMethod yX1_addOne ∈ kT := kT_in (List.mem_of_getElem? (i := 429) (by decide +kernel)) rfl
theorem wx_X1_addOne : Cond.selects RX1 yX1_addOne yX1_addOne ∈ kT := kT_in (List.mem_of_getElem? (i := 32) (by decide +kernel)) rfl
theorem wc_X1_worth : Cond.code yX1_worth cX1_worth 2 (some .long) ∈ kT := kT_in (List.mem_of_getElem? (i := 418) rfl) rfl
theorem wm_X1_worth : Cond.instanceMethod yX1_worth ∈ kT := kT_in (List.mem_of_getElem? (i := 416) (by decide +kernel)) rfl
theorem wx_X1_worth : Cond.selects RX1 yX1_worth yX1_worth ∈ kT := kT_in (List.mem_of_getElem? (i := 417) (by decide +kernel)) rfl
theorem wc_X1_frail : Cond.code yX1_frail cX1_frail 2 (some .int) ∈ kT := kT_in (List.mem_of_getElem? (i := 436) rfl) rfl
theorem wm_X1_frail : Cond.instanceMethod yX1_frail ∈ kT := kT_in (List.mem_of_getElem? (i := 434) (by decide +kernel)) rfl
theorem wx_X1_frail : Cond.selects RX1 yX1_frail yX1_frail ∈ kT := kT_in (List.mem_of_getElem? (i := 435) (by decide +kernel)) rfl
theorem wc_X1_copy : Cond.code yX1_copy cX1_copy 4 (some .int) ∈ kT := kT_in (List.mem_of_getElem? (i := 440) rfl) rfl
theorem wm_X1_copy : Cond.instanceMethod yX1_copy ∈ kT := kT_in (List.mem_of_getElem? (i := 438) (by decide +kernel)) rfl
theorem wx_X1_copy : Cond.selects RX1 yX1_copy yX1_copy ∈ kT := kT_in (List.mem_of_getElem? (i := 439) (by decide +kernel)) rfl
theorem wc_X1_isSpan : Cond.code yX1_isSpan cX1_isSpan 3 (some .boolean) ∈ kT := kT_in (List.mem_of_getElem? (i := 447) rfl) rfl
theorem wt_X1_isSpan : Cond.static yX1_isSpan ∈ kT := kT_in (List.mem_of_getElem? (i := 446) (by decide +kernel)) rfl
theorem wc_X1_carry : Cond.code yX1_carry cX1_carry 7 (some .int) ∈ kT := kT_in (List.mem_of_getElem? (i := 444) rfl) rfl
theorem wm_X1_carry : Cond.instanceMethod yX1_carry ∈ kT := kT_in (List.mem_of_getElem? (i := 442) (by decide +kernel)) rfl
theorem wx_X1_carry : Cond.selects RX1 yX1_carry yX1_carry ∈ kT := kT_in (List.mem_of_getElem? (i := 443) (by decide +kernel)) rfl
theorem wc_X1_about : Cond.code yX1_about cX1_about 3 (some .int) ∈ kT := kT_in (List.mem_of_getElem? (i := 451) rfl) rfl
theorem wm_X1_about : Cond.instanceMethod yX1_about ∈ kT := kT_in (List.mem_of_getElem? (i := 449) (by decide +kernel)) rfl
theorem wx_X1_about : Cond.selects RX1 yX1_about yX1_about ∈ kT := kT_in (List.mem_of_getElem? (i := 450) (by decide +kernel)) rfl
theorem wc_X1_bases : Cond.code yX1_bases cX1_bases 4 (some .int) ∈ kT := kT_in (List.mem_of_getElem? (i := 455) rfl) rfl
theorem wm_X1_bases : Cond.instanceMethod yX1_bases ∈ kT := kT_in (List.mem_of_getElem? (i := 453) (by decide +kernel)) rfl
theorem wx_X1_bases : Cond.selects RX1 yX1_bases yX1_bases ∈ kT := kT_in (List.mem_of_getElem? (i := 454) (by decide +kernel)) rfl
theorem wc_X1_count : Cond.code yX1_count cX1_count 2 (some .int) ∈ kT := kT_in (List.mem_of_getElem? (i := 459) rfl) rfl
theorem wm_X1_count : Cond.instanceMethod yX1_count ∈ kT := kT_in (List.mem_of_getElem? (i := 457) (by decide +kernel)) rfl
theorem wx_X1_count : Cond.selects RX1 yX1_count yX1_count ∈ kT := kT_in (List.mem_of_getElem? (i := 458) (by decide +kernel)) rfl
theorem wc_X1_clear : Cond.code yX1_clear cX1_clear 3 (some .int) ∈ kT := kT_in (List.mem_of_getElem? (i := 463) rfl) rfl
theorem wm_X1_clear : Cond.instanceMethod yX1_clear ∈ kT := kT_in (List.mem_of_getElem? (i := 461) (by decide +kernel)) rfl
theorem wx_X1_clear : Cond.selects RX1 yX1_clear yX1_clear ∈ kT := kT_in (List.mem_of_getElem? (i := 462) (by decide +kernel)) rfl
theorem wl_L_9 : Cond.methodLink RL 9 yX0_init ∈ kT := kT_in (List.mem_of_getElem? (i := 40) (by decide +kernel)) rfl
theorem wf_X0_9 : Cond.fieldLink RX0 9 "DepotTrays" "thingBase" "[I" ∈ kT := kT_in (List.mem_of_getElem? (i := 46) (by decide +kernel)) rfl
theorem wf_X0_13 : Cond.fieldLink RX0 13 "DepotTrays" "thingDepth" "[I" ∈ kT := kT_in (List.mem_of_getElem? (i := 47) (by decide +kernel)) rfl
theorem wf_X0_16 : Cond.fieldLink RX0 16 "DepotTrays" "thingSize" "[I" ∈ kT := kT_in (List.mem_of_getElem? (i := 48) (by decide +kernel)) rfl
theorem wf_X0_19 : Cond.fieldLink RX0 19 "DepotTrays" "pieceWorth" "[I" ∈ kT := kT_in (List.mem_of_getElem? (i := 49) (by decide +kernel)) rfl
theorem wf_X0_22 : Cond.fieldLink RX0 22 "DepotTrays" "places" "[J" ∈ kT := kT_in (List.mem_of_getElem? (i := 50) (by decide +kernel)) rfl
theorem wf_X0_26 : Cond.fieldLink RX0 26 "DepotTrays" "doorBase" "[I" ∈ kT := kT_in (List.mem_of_getElem? (i := 51) (by decide +kernel)) rfl
theorem wf_X0_29 : Cond.fieldLink RX0 29 "DepotTrays" "doorDepth" "[I" ∈ kT := kT_in (List.mem_of_getElem? (i := 52) (by decide +kernel)) rfl
theorem wf_X0_32 : Cond.fieldLink RX0 32 "DepotTrays" "thingCount" "I" ∈ kT := kT_in (List.mem_of_getElem? (i := 53) (by decide +kernel)) rfl
theorem wf_X0_36 : Cond.fieldLink RX0 36 "DepotTrays" "failureCount" "I" ∈ kT := kT_in (List.mem_of_getElem? (i := 54) (by decide +kernel)) rfl
theorem wf_X0_39 : Cond.fieldLink RX0 39 "DepotTrays" "latestFailure" "I" ∈ kT := kT_in (List.mem_of_getElem? (i := 55) (by decide +kernel)) rfl
theorem wf_X0_42 : Cond.fieldLink RX0 42 "DepotTrays" "closedDoor" "I" ∈ kT := kT_in (List.mem_of_getElem? (i := 56) (by decide +kernel)) rfl
theorem wl_L_13 : Cond.methodLink RL 13 yX0_piece ∈ kT := kT_in (List.mem_of_getElem? (i := 82) (by decide +kernel)) rfl
theorem gc_L_13 : GoodIn kT (wsV RL 13 RX0 yX0_piece (kW yX0_piece cX0_piece 4 (some .int))) := gdV wl_L_13 wm_X0_piece wx_X0_piece wn_X0 wc_X0_piece
theorem wl_X0_45 : Cond.methodLink RX0 45 yX0_hasRoomFor ∈ kT := kT_in (List.mem_of_getElem? (i := 86) (by decide +kernel)) rfl
theorem gc_X0_45 : GoodIn kT (wsV RX0 45 RX0 yX0_hasRoomFor (kW yX0_hasRoomFor cX0_hasRoomFor 2 (some .boolean))) := gdV wl_X0_45 wm_X0_hasRoomFor wx_X0_hasRoomFor wn_X0 wc_X0_hasRoomFor
theorem wl_X0_49 : Cond.methodLink RX0 49 yX0_addThing ∈ kT := kT_in (List.mem_of_getElem? (i := 90) (by decide +kernel)) rfl
theorem gc_X0_49 : GoodIn kT (wsV RX0 49 RX0 yX0_addThing (kW yX0_addThing cX0_addThing 5 (some .int))) := gdV wl_X0_49 wm_X0_addThing wx_X0_addThing wn_X0 wc_X0_addThing
theorem wl_L_18 : Cond.methodLink RL 18 yX0_row ∈ kT := kT_in (List.mem_of_getElem? (i := 94) (by decide +kernel)) rfl
theorem gc_L_18 : GoodIn kT (wsV RL 18 RX0 yX0_row (kW yX0_row cX0_row 4 (some .int))) := gdV wl_L_18 wm_X0_row wx_X0_row wn_X0 wc_X0_row
theorem wl_X0_53 : Cond.methodLink RX0 53 yX0_isKind ∈ kT := kT_in (List.mem_of_getElem? (i := 98) (by decide +kernel)) rfl
theorem gc_X0_53 : GoodIn kT (va_wsS RX0 53 yX0_isKind (kW yX0_isKind cX0_isKind 2 (some .boolean))) := gdS wl_X0_53 wt_X0_isKind wn_X0 wc_X0_isKind
theorem wl_X0_131 : Cond.methodLink RX0 131 yX0_isNumberBase ∈ kT := kT_in (List.mem_of_getElem? (i := 101) (by decide +kernel)) rfl
theorem gc_X0_131 : GoodIn kT (va_wsS RX0 131 yX0_isNumberBase (kW yX0_isNumberBase cX0_isNumberBase 1 (some .boolean))) := gdS wl_X0_131 wt_X0_isNumberBase wn_X0 wc_X0_isNumberBase
theorem wl_X0_57 : Cond.methodLink RX0 57 yX0_fail ∈ kT := kT_in (List.mem_of_getElem? (i := 104) (by decide +kernel)) rfl
theorem gc_X0_57 : GoodIn kT (wsV RX0 57 RX0 yX0_fail (kW yX0_fail cX0_fail 2 (some .int))) := gdV wl_X0_57 wm_X0_fail wx_X0_fail wn_X0 wc_X0_fail
theorem wl_X0_61 : Cond.methodLink RX0 61 yX0_addRow ∈ kT := kT_in (List.mem_of_getElem? (i := 108) (by decide +kernel)) rfl
theorem gc_X0_61 : GoodIn kT (wsV RX0 61 RX0 yX0_addRow (kW yX0_addRow cX0_addRow 8 (some .int))) := gdV wl_X0_61 wm_X0_addRow wx_X0_addRow wn_X0 wc_X0_addRow
theorem wl_X0_124 : Cond.methodLink RX0 124 yX0_isLedger ∈ kT := kT_in (List.mem_of_getElem? (i := 112) (by decide +kernel)) rfl
theorem gc_X0_124 : GoodIn kT (wsV RX0 124 RX0 yX0_isLedger (kW yX0_isLedger cX0_isLedger 2 (some .boolean))) := gdV wl_X0_124 wm_X0_isLedger wx_X0_isLedger wn_X0 wc_X0_isLedger
theorem wk_X0_146 : Cond.constantLong RX0 146 (-1 : Int64) ∈ kT := kT_in (List.mem_of_getElem? (i := 116) (by decide +kernel)) rfl
theorem wl_X0_70 : Cond.methodLink RX0 70 yX0_placeIndex ∈ kT := kT_in (List.mem_of_getElem? (i := 117) (by decide +kernel)) rfl
theorem gc_X0_70 : GoodIn kT (va_wsS RX0 70 yX0_placeIndex (kW yX0_placeIndex cX0_placeIndex 2 (some .int))) := gdS wl_X0_70 wt_X0_placeIndex wn_X0 wc_X0_placeIndex
theorem wl_L_23 : Cond.methodLink RL 23 yX0_grid ∈ kT := kT_in (List.mem_of_getElem? (i := 120) (by decide +kernel)) rfl
theorem gc_L_23 : GoodIn kT (wsV RL 23 RX0 yX0_grid (kW yX0_grid cX0_grid 6 (some .int))) := gdV wl_L_23 wm_X0_grid wx_X0_grid wn_X0 wc_X0_grid
theorem wl_L_27 : Cond.methodLink RL 27 yX0_put ∈ kT := kT_in (List.mem_of_getElem? (i := 127) (by decide +kernel)) rfl
theorem gc_L_27 : GoodIn kT (wsV RL 27 RX0 yX0_put (kW yX0_put cX0_put 4 (some .int))) := gdV wl_L_27 wm_X0_put wx_X0_put wn_X0 wc_X0_put
theorem wl_X0_73 : Cond.methodLink RX0 73 yX0_isThingOrNone ∈ kT := kT_in (List.mem_of_getElem? (i := 131) (by decide +kernel)) rfl
theorem gc_X0_73 : GoodIn kT (wsV RX0 73 RX0 yX0_isThingOrNone (kW yX0_isThingOrNone cX0_isThingOrNone 2 (some .boolean))) := gdV wl_X0_73 wm_X0_isThingOrNone wx_X0_isThingOrNone wn_X0 wc_X0_isThingOrNone
theorem wl_X0_137 : Cond.methodLink RX0 137 yX0_isThing ∈ kT := kT_in (List.mem_of_getElem? (i := 135) (by decide +kernel)) rfl
theorem gc_X0_137 : GoodIn kT (wsV RX0 137 RX0 yX0_isThing (kW yX0_isThing cX0_isThing 2 (some .boolean))) := gdV wl_X0_137 wm_X0_isThing wx_X0_isThing wn_X0 wc_X0_isThing
theorem wl_X0_76 : Cond.methodLink RX0 76 yX0_mayPass ∈ kT := kT_in (List.mem_of_getElem? (i := 139) (by decide +kernel)) rfl
theorem gc_X0_76 : GoodIn kT (wsV RX0 76 RX0 yX0_mayPass (kW yX0_mayPass cX0_mayPass 4 (some .boolean))) := gdV wl_X0_76 wm_X0_mayPass wx_X0_mayPass wn_X0 wc_X0_mayPass
theorem wl_X0_98 : Cond.methodLink RX0 98 yX0_isOfKind ∈ kT := kT_in (List.mem_of_getElem? (i := 143) (by decide +kernel)) rfl
theorem gc_X0_98 : GoodIn kT (wsV RX0 98 RX0 yX0_isOfKind (kW yX0_isOfKind cX0_isOfKind 4 (some .boolean))) := gdV wl_X0_98 wm_X0_isOfKind wx_X0_isOfKind wn_X0 wc_X0_isOfKind
theorem wl_X0_143 : Cond.methodLink RX0 143 yX0_goesFor ∈ kT := kT_in (List.mem_of_getElem? (i := 147) (by decide +kernel)) rfl
theorem gc_X0_143 : GoodIn kT (va_wsS RX0 143 yX0_goesFor (kW yX0_goesFor cX0_goesFor 2 (some .boolean))) := gdS wl_X0_143 wt_X0_goesFor wn_X0 wc_X0_goesFor
theorem wf_X0_140 : Cond.fieldLink RX0 140 "DepotTrays" "GOES_FOR" "[I" ∈ kT := kT_in (List.mem_of_getElem? (i := 150) (by decide +kernel)) rfl
theorem wl_X0_80 : Cond.methodLink RX0 80 yX0_holdsThings ∈ kT := kT_in (List.mem_of_getElem? (i := 152) (by decide +kernel)) rfl
theorem gc_X0_80 : GoodIn kT (wsV RX0 80 RX0 yX0_holdsThings (kW yX0_holdsThings cX0_holdsThings 2 (some .boolean))) := gdV wl_X0_80 wm_X0_holdsThings wx_X0_holdsThings wn_X0 wc_X0_holdsThings
theorem wl_X0_111 : Cond.methodLink RX0 111 yX0_isPiece ∈ kT := kT_in (List.mem_of_getElem? (i := 156) (by decide +kernel)) rfl
theorem gc_X0_111 : GoodIn kT (wsV RX0 111 RX0 yX0_isPiece (kW yX0_isPiece cX0_isPiece 2 (some .boolean))) := gdV wl_X0_111 wm_X0_isPiece wx_X0_isPiece wn_X0 wc_X0_isPiece
theorem wl_X0_83 : Cond.methodLink RX0 83 yX0_widestBase ∈ kT := kT_in (List.mem_of_getElem? (i := 160) (by decide +kernel)) rfl
theorem gc_X0_83 : GoodIn kT (wsV RX0 83 RX0 yX0_widestBase (kW yX0_widestBase cX0_widestBase 2 (some .int))) := gdV wl_X0_83 wm_X0_widestBase wx_X0_widestBase wn_X0 wc_X0_widestBase
theorem wl_X0_86 : Cond.methodLink RX0 86 yX0_hasPlace ∈ kT := kT_in (List.mem_of_getElem? (i := 164) (by decide +kernel)) rfl
theorem gc_X0_86 : GoodIn kT (wsV RX0 86 RX0 yX0_hasPlace (kW yX0_hasPlace cX0_hasPlace 3 (some .boolean))) := gdV wl_X0_86 wm_X0_hasPlace wx_X0_hasPlace wn_X0 wc_X0_hasPlace
theorem wl_X0_89 : Cond.methodLink RX0 89 yX0_goesInto ∈ kT := kT_in (List.mem_of_getElem? (i := 168) (by decide +kernel)) rfl
theorem gc_X0_89 : GoodIn kT (wsV RX0 89 RX0 yX0_goesInto (kW yX0_goesInto cX0_goesInto 3 (some .boolean))) := gdV wl_X0_89 wm_X0_goesInto wx_X0_goesInto wn_X0 wc_X0_goesInto
theorem wl_L_31 : Cond.methodLink RL 31 yX0_get ∈ kT := kT_in (List.mem_of_getElem? (i := 172) (by decide +kernel)) rfl
theorem gc_L_31 : GoodIn kT (wsV RL 31 RX0 yX0_get (kW yX0_get cX0_get 3 (some .int))) := gdV wl_L_31 wm_X0_get wx_X0_get wn_X0 wc_X0_get
theorem wl_X0_92 : Cond.methodLink RX0 92 yX0_thingAt ∈ kT := kT_in (List.mem_of_getElem? (i := 176) (by decide +kernel)) rfl
theorem gc_X0_92 : GoodIn kT (wsV RX0 92 RX0 yX0_thingAt (kW yX0_thingAt cX0_thingAt 3 (some .int))) := gdV wl_X0_92 wm_X0_thingAt wx_X0_thingAt wn_X0 wc_X0_thingAt
theorem wl_L_37 : Cond.methodLink RL 37 yX0_set ∈ kT := kT_in (List.mem_of_getElem? (i := 180) (by decide +kernel)) rfl
theorem gc_L_37 : GoodIn kT (wsV RL 37 RX0 yX0_set (kW yX0_set cX0_set 6 (some .int))) := gdV wl_L_37 wm_X0_set wx_X0_set wn_X0 wc_X0_set
theorem wl_X0_95 : Cond.methodLink RX0 95 yX0_ledgerFailure ∈ kT := kT_in (List.mem_of_getElem? (i := 184) (by decide +kernel)) rfl
theorem gc_X0_95 : GoodIn kT (wsV RX0 95 RX0 yX0_ledgerFailure (kW yX0_ledgerFailure cX0_ledgerFailure 3 (some .int))) := gdV wl_X0_95 wm_X0_ledgerFailure wx_X0_ledgerFailure wn_X0 wc_X0_ledgerFailure
theorem wl_L_42 : Cond.methodLink RL 42 yX0_number ∈ kT := kT_in (List.mem_of_getElem? (i := 188) (by decide +kernel)) rfl
theorem gc_L_42 : GoodIn kT (wsV RL 42 RX0 yX0_number (kW yX0_number cX0_number 3 (some .long))) := gdV wl_L_42 wm_X0_number wx_X0_number wn_X0 wc_X0_number
theorem wl_L_47 : Cond.methodLink RL 47 yX0_is ∈ kT := kT_in (List.mem_of_getElem? (i := 192) (by decide +kernel)) rfl
theorem gc_L_47 : GoodIn kT (wsV RL 47 RX0 yX0_is (kW yX0_is cX0_is 4 (some .int))) := gdV wl_L_47 wm_X0_is wx_X0_is wn_X0 wc_X0_is
theorem wl_L_51 : Cond.methodLink RL 51 yX0_door ∈ kT := kT_in (List.mem_of_getElem? (i := 196) (by decide +kernel)) rfl
theorem gc_L_51 : GoodIn kT (wsV RL 51 RX0 yX0_door (kW yX0_door cX0_door 4 (some .int))) := gdV wl_L_51 wm_X0_door wx_X0_door wn_X0 wc_X0_door
theorem wl_X0_101 : Cond.methodLink RX0 101 yX0_isDoor ∈ kT := kT_in (List.mem_of_getElem? (i := 200) (by decide +kernel)) rfl
theorem gc_X0_101 : GoodIn kT (va_wsS RX0 101 yX0_isDoor (kW yX0_isDoor cX0_isDoor 1 (some .boolean))) := gdS wl_X0_101 wt_X0_isDoor wn_X0 wc_X0_isDoor
theorem wl_L_55 : Cond.methodLink RL 55 yX0_through ∈ kT := kT_in (List.mem_of_getElem? (i := 203) (by decide +kernel)) rfl
theorem gc_L_55 : GoodIn kT (wsV RL 55 RX0 yX0_through (kW yX0_through cX0_through 4 (some .int))) := gdV wl_L_55 wm_X0_through wx_X0_through wn_X0 wc_X0_through
theorem wl_X0_104 : Cond.methodLink RX0 104 yX0_firstClosedDoor ∈ kT := kT_in (List.mem_of_getElem? (i := 207) (by decide +kernel)) rfl
theorem gc_X0_104 : GoodIn kT (wsV RX0 104 RX0 yX0_firstClosedDoor (kW yX0_firstClosedDoor cX0_firstClosedDoor 5 (some .int))) := gdV wl_X0_104 wm_X0_firstClosedDoor wx_X0_firstClosedDoor wn_X0 wc_X0_firstClosedDoor
theorem wl_L_59 : Cond.methodLink RL 59 yX0_lastDoor ∈ kT := kT_in (List.mem_of_getElem? (i := 211) (by decide +kernel)) rfl
theorem gc_L_59 : GoodIn kT (wsV RL 59 RX0 yX0_lastDoor (kW yX0_lastDoor cX0_lastDoor 1 (some .int))) := gdV wl_L_59 wm_X0_lastDoor wx_X0_lastDoor wn_X0 wc_X0_lastDoor
theorem wl_L_64 : Cond.methodLink RL 64 yX0_worth ∈ kT := kT_in (List.mem_of_getElem? (i := 215) (by decide +kernel)) rfl
theorem gc_L_64 : GoodIn kT (wsV RL 64 RX0 yX0_worth (kW yX0_worth cX0_worth 2 (some .long))) := gdV wl_L_64 wm_X0_worth wx_X0_worth wn_X0 wc_X0_worth
theorem wl_X0_107 : Cond.methodLink RX0 107 yX0_worthWithin ∈ kT := kT_in (List.mem_of_getElem? (i := 219) (by decide +kernel)) rfl
theorem gc_X0_107 : GoodIn kT (wsV RX0 107 RX0 yX0_worthWithin (kW yX0_worthWithin cX0_worthWithin 6 (some .long))) := gdV wl_X0_107 wm_X0_worthWithin wx_X0_worthWithin wn_X0 wc_X0_worthWithin
theorem wl_X0_154 : Cond.methodLink RX0 154 yX0_worthOfPiece ∈ kT := kT_in (List.mem_of_getElem? (i := 223) (by decide +kernel)) rfl
theorem gc_X0_154 : GoodIn kT (wsV RX0 154 RX0 yX0_worthOfPiece (kW yX0_worthOfPiece cX0_worthOfPiece 4 (some .long))) := gdV wl_X0_154 wm_X0_worthOfPiece wx_X0_worthOfPiece wn_X0 wc_X0_worthOfPiece
theorem wk_X0_158 : Cond.constantLong RX0 158 (2 : Int64) ∈ kT := kT_in (List.mem_of_getElem? (i := 227) (by decide +kernel)) rfl
theorem wk_X0_160 : Cond.constantLong RX0 160 (100 : Int64) ∈ kT := kT_in (List.mem_of_getElem? (i := 228) (by decide +kernel)) rfl
theorem wl_L_69 : Cond.methodLink RL 69 yX0_copy ∈ kT := kT_in (List.mem_of_getElem? (i := 229) (by decide +kernel)) rfl
theorem gc_L_69 : GoodIn kT (wsV RL 69 RX0 yX0_copy (kW yX0_copy cX0_copy 3 (some .int))) := gdV wl_L_69 wm_X0_copy wx_X0_copy wn_X0 wc_X0_copy
theorem wl_X0_114 : Cond.methodLink RX0 114 yX0_movePlaces ∈ kT := kT_in (List.mem_of_getElem? (i := 233) (by decide +kernel)) rfl
theorem gc_X0_114 : GoodIn kT (wsV RX0 114 RX0 yX0_movePlaces (kW yX0_movePlaces cX0_movePlaces 6 none)) := gdV wl_X0_114 wm_X0_movePlaces wx_X0_movePlaces wn_X0 wc_X0_movePlaces
theorem wl_L_74 : Cond.methodLink RL 74 yX0_carry ∈ kT := kT_in (List.mem_of_getElem? (i := 240) (by decide +kernel)) rfl
theorem gc_L_74 : GoodIn kT (wsV RL 74 RX0 yX0_carry (kW yX0_carry cX0_carry 7 (some .int))) := gdV wl_L_74 wm_X0_carry wx_X0_carry wn_X0 wc_X0_carry
theorem wl_X0_118 : Cond.methodLink RX0 118 yX0_areAlike ∈ kT := kT_in (List.mem_of_getElem? (i := 244) (by decide +kernel)) rfl
theorem gc_X0_118 : GoodIn kT (wsV RX0 118 RX0 yX0_areAlike (kW yX0_areAlike cX0_areAlike 3 (some .boolean))) := gdV wl_X0_118 wm_X0_areAlike wx_X0_areAlike wn_X0 wc_X0_areAlike
theorem wl_X0_121 : Cond.methodLink RX0 121 yX0_hasPlaces ∈ kT := kT_in (List.mem_of_getElem? (i := 248) (by decide +kernel)) rfl
theorem gc_X0_121 : GoodIn kT (wsV RX0 121 RX0 yX0_hasPlaces (kW yX0_hasPlaces cX0_hasPlaces 4 (some .boolean))) := gdV wl_X0_121 wm_X0_hasPlaces wx_X0_hasPlaces wn_X0 wc_X0_hasPlaces
theorem wl_X0_127 : Cond.methodLink RX0 127 yX0_countGoing ∈ kT := kT_in (List.mem_of_getElem? (i := 252) (by decide +kernel)) rfl
theorem gc_X0_127 : GoodIn kT (wsV RX0 127 RX0 yX0_countGoing (kW yX0_countGoing cX0_countGoing 6 (some .int))) := gdV wl_X0_127 wm_X0_countGoing wx_X0_countGoing wn_X0 wc_X0_countGoing
theorem wl_L_79 : Cond.methodLink RL 79 yX0_frail ∈ kT := kT_in (List.mem_of_getElem? (i := 256) (by decide +kernel)) rfl
theorem gc_L_79 : GoodIn kT (wsV RL 79 RX0 yX0_frail (kW yX0_frail cX0_frail 2 (some .int))) := gdV wl_L_79 wm_X0_frail wx_X0_frail wn_X0 wc_X0_frail
theorem wl_X0_134 : Cond.methodLink RX0 134 yX0_frailWithin ∈ kT := kT_in (List.mem_of_getElem? (i := 260) (by decide +kernel)) rfl
theorem gc_X0_134 : GoodIn kT (wsV RX0 134 RX0 yX0_frailWithin (kW yX0_frailWithin cX0_frailWithin 5 (some .int))) := gdV wl_X0_134 wm_X0_frailWithin wx_X0_frailWithin wn_X0 wc_X0_frailWithin
theorem wl_L_83 : Cond.methodLink RL 83 yX0_about ∈ kT := kT_in (List.mem_of_getElem? (i := 264) (by decide +kernel)) rfl
theorem gc_L_83 : GoodIn kT (wsV RL 83 RX0 yX0_about (kW yX0_about cX0_about 3 (some .int))) := gdV wl_L_83 wm_X0_about wx_X0_about wn_X0 wc_X0_about
theorem wl_L_87 : Cond.methodLink RL 87 yX0_bases ∈ kT := kT_in (List.mem_of_getElem? (i := 268) (by decide +kernel)) rfl
theorem gc_L_87 : GoodIn kT (wsV RL 87 RX0 yX0_bases (kW yX0_bases cX0_bases 2 (some .int))) := gdV wl_L_87 wm_X0_bases wx_X0_bases wn_X0 wc_X0_bases
theorem wl_L_91 : Cond.methodLink RL 91 yX0_count ∈ kT := kT_in (List.mem_of_getElem? (i := 272) (by decide +kernel)) rfl
theorem gc_L_91 : GoodIn kT (wsV RL 91 RX0 yX0_count (kW yX0_count cX0_count 2 (some .int))) := gdV wl_L_91 wm_X0_count wx_X0_count wn_X0 wc_X0_count
theorem wl_L_95 : Cond.methodLink RL 95 yX0_clear ∈ kT := kT_in (List.mem_of_getElem? (i := 276) (by decide +kernel)) rfl
theorem gc_L_95 : GoodIn kT (wsV RL 95 RX0 yX0_clear (kW yX0_clear cX0_clear 3 (some .int))) := gdV wl_L_95 wm_X0_clear wx_X0_clear wn_X0 wc_X0_clear
theorem wl_L_12 : Cond.methodLink RL 12 yX1_init ∈ kT := kT_in (List.mem_of_getElem? (i := 282) (by decide +kernel)) rfl
theorem wf_X1_57 : Cond.fieldLink RX1 57 "DepotTraysModel" "things" "I" ∈ kT := kT_in (List.mem_of_getElem? (i := 286) (by decide +kernel)) rfl
theorem wf_X1_7 : Cond.fieldLink RX1 7 "DepotTraysModel" "bases" "[I" ∈ kT := kT_in (List.mem_of_getElem? (i := 287) (by decide +kernel)) rfl
theorem wf_X1_13 : Cond.fieldLink RX1 13 "DepotTraysModel" "depths" "[I" ∈ kT := kT_in (List.mem_of_getElem? (i := 288) (by decide +kernel)) rfl
theorem wf_X1_16 : Cond.fieldLink RX1 16 "DepotTraysModel" "sizes" "[I" ∈ kT := kT_in (List.mem_of_getElem? (i := 289) (by decide +kernel)) rfl
theorem wf_X1_19 : Cond.fieldLink RX1 19 "DepotTraysModel" "worths" "[I" ∈ kT := kT_in (List.mem_of_getElem? (i := 290) (by decide +kernel)) rfl
theorem wf_X1_22 : Cond.fieldLink RX1 22 "DepotTraysModel" "lies" "[I" ∈ kT := kT_in (List.mem_of_getElem? (i := 291) (by decide +kernel)) rfl
theorem wf_X1_25 : Cond.fieldLink RX1 25 "DepotTraysModel" "numbers" "[J" ∈ kT := kT_in (List.mem_of_getElem? (i := 292) (by decide +kernel)) rfl
theorem wf_X1_29 : Cond.fieldLink RX1 29 "DepotTraysModel" "doorBase" "[I" ∈ kT := kT_in (List.mem_of_getElem? (i := 293) (by decide +kernel)) rfl
theorem wf_X1_32 : Cond.fieldLink RX1 32 "DepotTraysModel" "doorDepth" "[I" ∈ kT := kT_in (List.mem_of_getElem? (i := 294) (by decide +kernel)) rfl
theorem wf_X1_51 : Cond.fieldLink RX1 51 "DepotTraysModel" "failures" "I" ∈ kT := kT_in (List.mem_of_getElem? (i := 295) (by decide +kernel)) rfl
theorem wf_X1_54 : Cond.fieldLink RX1 54 "DepotTraysModel" "latest" "I" ∈ kT := kT_in (List.mem_of_getElem? (i := 296) (by decide +kernel)) rfl
theorem wf_X1_35 : Cond.fieldLink RX1 35 "DepotTraysModel" "last" "I" ∈ kT := kT_in (List.mem_of_getElem? (i := 297) (by decide +kernel)) rfl
theorem wf_X1_39 : Cond.fieldLink RX1 39 "DepotTraysModel" "sums" "[J" ∈ kT := kT_in (List.mem_of_getElem? (i := 298) (by decide +kernel)) rfl
theorem wf_X1_42 : Cond.fieldLink RX1 42 "DepotTraysModel" "counts" "[I" ∈ kT := kT_in (List.mem_of_getElem? (i := 299) (by decide +kernel)) rfl
theorem wf_X1_45 : Cond.fieldLink RX1 45 "DepotTraysModel" "moved" "[I" ∈ kT := kT_in (List.mem_of_getElem? (i := 300) (by decide +kernel)) rfl
theorem wf_X1_48 : Cond.fieldLink RX1 48 "DepotTraysModel" "movedNumbers" "[J" ∈ kT := kT_in (List.mem_of_getElem? (i := 301) (by decide +kernel)) rfl
theorem wl_L_17 : Cond.methodLink RL 17 yX1_piece ∈ kT := kT_in (List.mem_of_getElem? (i := 335) (by decide +kernel)) rfl
theorem gc_L_17 : GoodIn kT (wsV RL 17 RX1 yX1_piece (kW yX1_piece cX1_piece 3 (some .int))) := gdV wl_L_17 wm_X1_piece wx_X1_piece wn_X1 wc_X1_piece
theorem wl_X1_60 : Cond.methodLink RX1 60 yX1_isIn ∈ kT := kT_in (List.mem_of_getElem? (i := 339) (by decide +kernel)) rfl
theorem gc_X1_60 : GoodIn kT (va_wsS RX1 60 yX1_isIn (kW yX1_isIn cX1_isIn 3 (some .boolean))) := gdS wl_X1_60 wt_X1_isIn wn_X1 wc_X1_isIn
theorem wl_X1_68 : Cond.methodLink RX1 68 yX1_make ∈ kT := kT_in (List.mem_of_getElem? (i := 342) (by decide +kernel)) rfl
theorem gc_X1_68 : GoodIn kT (wsV RX1 68 RX1 yX1_make (kW yX1_make cX1_make 7 (some .int))) := gdV wl_X1_68 wm_X1_make wx_X1_make wn_X1 wc_X1_make
theorem wl_L_22 : Cond.methodLink RL 22 yX1_row ∈ kT := kT_in (List.mem_of_getElem? (i := 346) (by decide +kernel)) rfl
theorem gc_L_22 : GoodIn kT (wsV RL 22 RX1 yX1_row (kW yX1_row cX1_row 4 (some .int))) := gdV wl_L_22 wm_X1_row wx_X1_row wn_X1 wc_X1_row
theorem wl_X1_72 : Cond.methodLink RX1 72 yX1_isShape ∈ kT := kT_in (List.mem_of_getElem? (i := 350) (by decide +kernel)) rfl
theorem gc_X1_72 : GoodIn kT (va_wsS RX1 72 yX1_isShape (kW yX1_isShape cX1_isShape 2 (some .boolean))) := gdS wl_X1_72 wt_X1_isShape wn_X1 wc_X1_isShape
theorem wl_X1_75 : Cond.methodLink RX1 75 yX1_fails ∈ kT := kT_in (List.mem_of_getElem? (i := 353) (by decide +kernel)) rfl
theorem gc_X1_75 : GoodIn kT (wsV RX1 75 RX1 yX1_fails (kW yX1_fails cX1_fails 2 (some .int))) := gdV wl_X1_75 wm_X1_fails wx_X1_fails wn_X1 wc_X1_fails
theorem wl_L_26 : Cond.methodLink RL 26 yX1_grid ∈ kT := kT_in (List.mem_of_getElem? (i := 357) (by decide +kernel)) rfl
theorem gc_L_26 : GoodIn kT (wsV RL 26 RX1 yX1_grid (kW yX1_grid cX1_grid 6 (some .int))) := gdV wl_L_26 wm_X1_grid wx_X1_grid wn_X1 wc_X1_grid
theorem wl_L_30 : Cond.methodLink RL 30 yX1_put ∈ kT := kT_in (List.mem_of_getElem? (i := 361) (by decide +kernel)) rfl
theorem gc_L_30 : GoodIn kT (wsV RL 30 RX1 yX1_put (kW yX1_put cX1_put 5 (some .int))) := gdV wl_L_30 wm_X1_put wx_X1_put wn_X1 wc_X1_put
theorem wl_X1_79 : Cond.methodLink RX1 79 yX1_mayBe ∈ kT := kT_in (List.mem_of_getElem? (i := 365) (by decide +kernel)) rfl
theorem gc_X1_79 : GoodIn kT (wsV RX1 79 RX1 yX1_mayBe (kW yX1_mayBe cX1_mayBe 2 (some .boolean))) := gdV wl_X1_79 wm_X1_mayBe wx_X1_mayBe wn_X1 wc_X1_mayBe
theorem wl_X1_83 : Cond.methodLink RX1 83 yX1_isSuch ∈ kT := kT_in (List.mem_of_getElem? (i := 369) (by decide +kernel)) rfl
theorem gc_X1_83 : GoodIn kT (wsV RX1 83 RX1 yX1_isSuch (kW yX1_isSuch cX1_isSuch 4 (some .boolean))) := gdV wl_X1_83 wm_X1_isSuch wx_X1_isSuch wn_X1 wc_X1_isSuch
theorem wl_X1_64 : Cond.methodLink RX1 64 yX1_goesFor ∈ kT := kT_in (List.mem_of_getElem? (i := 373) (by decide +kernel)) rfl
theorem gc_X1_64 : GoodIn kT (va_wsS RX1 64 yX1_goesFor (kW yX1_goesFor cX1_goesFor 2 (some .boolean))) := gdS wl_X1_64 wt_X1_goesFor wn_X1 wc_X1_goesFor
theorem wl_X1_86 : Cond.methodLink RX1 86 yX1_isLedger ∈ kT := kT_in (List.mem_of_getElem? (i := 376) (by decide +kernel)) rfl
theorem gc_X1_86 : GoodIn kT (wsV RX1 86 RX1 yX1_isLedger (kW yX1_isLedger cX1_isLedger 2 (some .boolean))) := gdV wl_X1_86 wm_X1_isLedger wx_X1_isLedger wn_X1 wc_X1_isLedger
theorem wl_L_34 : Cond.methodLink RL 34 yX1_get ∈ kT := kT_in (List.mem_of_getElem? (i := 380) (by decide +kernel)) rfl
theorem gc_L_34 : GoodIn kT (wsV RL 34 RX1 yX1_get (kW yX1_get cX1_get 3 (some .int))) := gdV wl_L_34 wm_X1_get wx_X1_get wn_X1 wc_X1_get
theorem wl_L_41 : Cond.methodLink RL 41 yX1_set ∈ kT := kT_in (List.mem_of_getElem? (i := 384) (by decide +kernel)) rfl
theorem gc_L_41 : GoodIn kT (wsV RL 41 RX1 yX1_set (kW yX1_set cX1_set 6 (some .int))) := gdV wl_L_41 wm_X1_set wx_X1_set wn_X1 wc_X1_set
theorem wl_X1_89 : Cond.methodLink RX1 89 yX1_refused ∈ kT := kT_in (List.mem_of_getElem? (i := 388) (by decide +kernel)) rfl
theorem gc_X1_89 : GoodIn kT (wsV RX1 89 RX1 yX1_refused (kW yX1_refused cX1_refused 3 (some .int))) := gdV wl_X1_89 wm_X1_refused wx_X1_refused wn_X1 wc_X1_refused
theorem wl_L_46 : Cond.methodLink RL 46 yX1_number ∈ kT := kT_in (List.mem_of_getElem? (i := 392) (by decide +kernel)) rfl
theorem gc_L_46 : GoodIn kT (wsV RL 46 RX1 yX1_number (kW yX1_number cX1_number 3 (some .long))) := gdV wl_L_46 wm_X1_number wx_X1_number wn_X1 wc_X1_number
theorem wl_L_50 : Cond.methodLink RL 50 yX1_is ∈ kT := kT_in (List.mem_of_getElem? (i := 396) (by decide +kernel)) rfl
theorem gc_L_50 : GoodIn kT (wsV RL 50 RX1 yX1_is (kW yX1_is cX1_is 4 (some .int))) := gdV wl_L_50 wm_X1_is wx_X1_is wn_X1 wc_X1_is
theorem wl_X1_93 : Cond.methodLink RX1 93 yX1_isAsked ∈ kT := kT_in (List.mem_of_getElem? (i := 400) (by decide +kernel)) rfl
theorem gc_X1_93 : GoodIn kT (va_wsS RX1 93 yX1_isAsked (kW yX1_isAsked cX1_isAsked 2 (some .boolean))) := gdS wl_X1_93 wt_X1_isAsked wn_X1 wc_X1_isAsked
theorem wl_L_54 : Cond.methodLink RL 54 yX1_door ∈ kT := kT_in (List.mem_of_getElem? (i := 403) (by decide +kernel)) rfl
theorem gc_L_54 : GoodIn kT (wsV RL 54 RX1 yX1_door (kW yX1_door cX1_door 4 (some .int))) := gdV wl_L_54 wm_X1_door wx_X1_door wn_X1 wc_X1_door
theorem wl_L_58 : Cond.methodLink RL 58 yX1_through ∈ kT := kT_in (List.mem_of_getElem? (i := 407) (by decide +kernel)) rfl
theorem gc_L_58 : GoodIn kT (wsV RL 58 RX1 yX1_through (kW yX1_through cX1_through 5 (some .int))) := gdV wl_L_58 wm_X1_through wx_X1_through wn_X1 wc_X1_through
theorem wl_L_63 : Cond.methodLink RL 63 yX1_lastDoor ∈ kT := kT_in (List.mem_of_getElem? (i := 411) (by decide +kernel)) rfl
theorem gc_L_63 : GoodIn kT (wsV RL 63 RX1 yX1_lastDoor (kW yX1_lastDoor cX1_lastDoor 1 (some .int))) := gdV wl_L_63 wm_X1_lastDoor wx_X1_lastDoor wn_X1 wc_X1_lastDoor
theorem wl_L_68 : Cond.methodLink RL 68 yX1_worth ∈ kT := kT_in (List.mem_of_getElem? (i := 415) (by decide +kernel)) rfl
theorem gc_L_68 : GoodIn kT (wsV RL 68 RX1 yX1_worth (kW yX1_worth cX1_worth 2 (some .long))) := gdV wl_L_68 wm_X1_worth wx_X1_worth wn_X1 wc_X1_worth
theorem wl_X1_104 : Cond.methodLink RX1 104 yX1_isThing ∈ kT := kT_in (List.mem_of_getElem? (i := 419) (by decide +kernel)) rfl
theorem gc_X1_104 : GoodIn kT (wsV RX1 104 RX1 yX1_isThing (kW yX1_isThing cX1_isThing 2 (some .boolean))) := gdV wl_X1_104 wm_X1_isThing wx_X1_isThing wn_X1 wc_X1_isThing
theorem wl_X1_107 : Cond.methodLink RX1 107 yX1_addUp ∈ kT := kT_in (List.mem_of_getElem? (i := 423) (by decide +kernel)) rfl
theorem gc_X1_107 : GoodIn kT (wsV RX1 107 RX1 yX1_addUp (kW yX1_addUp cX1_addUp 3 none)) := gdV wl_X1_107 wm_X1_addUp wx_X1_addUp wn_X1 wc_X1_addUp
theorem wl_X1_96 : Cond.methodLink RX1 96 yX1_addOne ∈ kT := kT_in (List.mem_of_getElem? (i := 427) (by decide +kernel)) rfl
theorem gc_X1_96 : GoodIn kT (wsV RX1 96 RX1 yX1_addOne (kW yX1_addOne cX1_addOne 7 none)) := gdV wl_X1_96 wm_X1_addOne wx_X1_addOne wn_X1 wc_X1_addOne
theorem wk_X1_100 : Cond.constantLong RX1 100 (2 : Int64) ∈ kT := kT_in (List.mem_of_getElem? (i := 431) (by decide +kernel)) rfl
theorem wk_X1_102 : Cond.constantLong RX1 102 (100 : Int64) ∈ kT := kT_in (List.mem_of_getElem? (i := 432) (by decide +kernel)) rfl
theorem wl_L_82 : Cond.methodLink RL 82 yX1_frail ∈ kT := kT_in (List.mem_of_getElem? (i := 433) (by decide +kernel)) rfl
theorem gc_L_82 : GoodIn kT (wsV RL 82 RX1 yX1_frail (kW yX1_frail cX1_frail 2 (some .int))) := gdV wl_L_82 wm_X1_frail wx_X1_frail wn_X1 wc_X1_frail
theorem wl_L_73 : Cond.methodLink RL 73 yX1_copy ∈ kT := kT_in (List.mem_of_getElem? (i := 437) (by decide +kernel)) rfl
theorem gc_L_73 : GoodIn kT (wsV RL 73 RX1 yX1_copy (kW yX1_copy cX1_copy 4 (some .int))) := gdV wl_L_73 wm_X1_copy wx_X1_copy wn_X1 wc_X1_copy
theorem wl_L_78 : Cond.methodLink RL 78 yX1_carry ∈ kT := kT_in (List.mem_of_getElem? (i := 441) (by decide +kernel)) rfl
theorem gc_L_78 : GoodIn kT (wsV RL 78 RX1 yX1_carry (kW yX1_carry cX1_carry 7 (some .int))) := gdV wl_L_78 wm_X1_carry wx_X1_carry wn_X1 wc_X1_carry
theorem wl_X1_110 : Cond.methodLink RX1 110 yX1_isSpan ∈ kT := kT_in (List.mem_of_getElem? (i := 445) (by decide +kernel)) rfl
theorem gc_X1_110 : GoodIn kT (va_wsS RX1 110 yX1_isSpan (kW yX1_isSpan cX1_isSpan 3 (some .boolean))) := gdS wl_X1_110 wt_X1_isSpan wn_X1 wc_X1_isSpan
theorem wl_L_86 : Cond.methodLink RL 86 yX1_about ∈ kT := kT_in (List.mem_of_getElem? (i := 448) (by decide +kernel)) rfl
theorem gc_L_86 : GoodIn kT (wsV RL 86 RX1 yX1_about (kW yX1_about cX1_about 3 (some .int))) := gdV wl_L_86 wm_X1_about wx_X1_about wn_X1 wc_X1_about
theorem wl_L_90 : Cond.methodLink RL 90 yX1_bases ∈ kT := kT_in (List.mem_of_getElem? (i := 452) (by decide +kernel)) rfl
theorem gc_L_90 : GoodIn kT (wsV RL 90 RX1 yX1_bases (kW yX1_bases cX1_bases 4 (some .int))) := gdV wl_L_90 wm_X1_bases wx_X1_bases wn_X1 wc_X1_bases
theorem wl_L_94 : Cond.methodLink RL 94 yX1_count ∈ kT := kT_in (List.mem_of_getElem? (i := 456) (by decide +kernel)) rfl
theorem gc_L_94 : GoodIn kT (wsV RL 94 RX1 yX1_count (kW yX1_count cX1_count 2 (some .int))) := gdV wl_L_94 wm_X1_count wx_X1_count wn_X1 wc_X1_count
theorem wl_L_98 : Cond.methodLink RL 98 yX1_clear ∈ kT := kT_in (List.mem_of_getElem? (i := 460) (by decide +kernel)) rfl
theorem gc_L_98 : GoodIn kT (wsV RL 98 RX1 yX1_clear (kW yX1_clear cX1_clear 3 (some .int))) := gdV wl_L_98 wm_X1_clear wx_X1_clear wn_X1 wc_X1_clear
theorem wk_L_35 : Cond.constantLong RL 35 (4294967295 : Int64) ∈ kT := kT_in (List.mem_of_getElem? (i := 464) (by decide +kernel)) rfl
theorem wl_X0_1 : Cond.methodLink RX0 1 objectInit ∈ kT := kT_in (List.mem_of_getElem? (i := 43) (by decide +kernel)) rfl
theorem wl_X1_1 : Cond.methodLink RX1 1 objectInit ∈ kT := kT_in (List.mem_of_getElem? (i := 285) (by decide +kernel)) rfl
theorem wm_obj : Cond.instanceMethod objectInit ∈ kT := kT_in (List.mem_of_getElem? (i := 44) (by decide +kernel)) rfl
theorem wc_obj : Cond.code objectInit ⟨#[0xb1]⟩ 1 none ∈ kT := kT_in (List.mem_of_getElem? (i := 45) rfl) rfl
theorem wl_X0_64 : Cond.methodLink RX0 64 Lib.Math.max.name ∈ kT := kT_in (List.mem_of_getElem? (i := 124) (by decide +kernel)) rfl
theorem wt_max : Cond.static Lib.Math.max.name ∈ kT := kT_in (List.mem_of_getElem? (i := 125) (by decide +kernel)) rfl
theorem wn_math : Cond.initialized "java/lang/Math" ∈ kT := kT_in (List.mem_of_getElem? (i := 36) (by decide +kernel)) rfl
theorem wc_max : Cond.code Lib.Math.max.name Lib.Math.max.code 2 (some .int) ∈ kT := kT_in (List.mem_of_getElem? (i := 126) rfl) rfl
theorem wl_X0_148 : Cond.methodLink RX0 148 arraycopyName ∈ kT := kT_in (List.mem_of_getElem? (i := 237) (by decide +kernel)) rfl
theorem wt_copy : Cond.static arraycopyName ∈ kT := kT_in (List.mem_of_getElem? (i := 238) (by decide +kernel)) rfl
theorem wv_copy : Cond.native arraycopyName ∈ kT := kT_in (List.mem_of_getElem? (i := 239) (by decide +kernel)) rfl
theorem wn_sys : Cond.initialized "java/lang/System" ∈ kT := kT_in (List.mem_of_getElem? (i := 37) (by decide +kernel)) rfl
theorem wa_int : Cond.arrayClass .int ∈ kT := kT_in (List.mem_of_getElem? (i := 80) (by decide +kernel)) rfl
theorem wa_long : Cond.arrayClass .long ∈ kT := kT_in (List.mem_of_getElem? (i := 81) (by decide +kernel)) rfl
theorem wq_L_7 : Cond.classLink RL 7 RX0 ∈ kT := kT_in (List.mem_of_getElem? (i := 38) (by decide +kernel)) rfl
theorem wq_L_10 : Cond.classLink RL 10 RX1 ∈ kT := kT_in (List.mem_of_getElem? (i := 280) (by decide +kernel)) rfl
theorem wz_X0 : Cond.instantiable RX0 11 ∈ kT := kT_in (List.mem_of_getElem? (i := 39) (by decide +kernel)) rfl
theorem wz_X1 : Cond.instantiable RX1 16 ∈ kT := kT_in (List.mem_of_getElem? (i := 281) (by decide +kernel)) rfl
theorem wy_gf : Cond.laysStatic "DepotTrays" "GOES_FOR" "[I" ∈ lw_tbl := List.mem_of_getElem? (i := 151) (by decide +kernel)
