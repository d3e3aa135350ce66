def AW_0 : List Cond := [.fieldLink "TaleMachineModel" 75 "TaleMachineModel" "code" "I",
  .code y_Model_outside prog_10_method_4_code 3 (some .boolean),
  .methodLink "TaleMachineModel" 78 y_Model_outside,
  .static y_Model_outside,
  .initialized "TaleMachineModel",
  .fieldLink "TaleMachineModel" 13 "TaleMachineModel" "w" "[I",
  .code y_Model_isThere prog_10_method_5_code 2 (some .boolean),
  .methodLink "TaleMachineModel" 107 y_Model_isThere,
  .instanceMethod y_Model_isThere,
  .selects "TaleMachineModel" y_Model_isThere y_Model_isThere,
  .code y_Model_placeOf prog_10_method_8_code 3 (some .int),
  .methodLink "TaleMachineModel" 82 y_Model_placeOf,
  .instanceMethod y_Model_placeOf,
  .selects "TaleMachineModel" y_Model_placeOf y_Model_placeOf,
  .fieldLink "TaleMachineModel" 104 "TaleMachineModel" "size" "I",
  .fieldLink "TaleMachineModel" 7 "TaleMachineModel" "bytes" "[I",
  .code y_Model_isParent prog_10_method_17_code 2 (some .boolean),
  .methodLink "TaleMachineModel" 111 y_Model_isParent,
  .instanceMethod y_Model_isParent,
  .selects "TaleMachineModel" y_Model_isParent y_Model_isParent,
  .fieldLink "TaleMachineModel" 71 "TaleMachineModel" "ended" "I",
  .fieldLink "TaleMachineModel" 114 "TaleMachineModel" "fixed" "I",
  .code y_Model_empty prog_10_method_11_code 3 none,
  .methodLink "TaleMachineModel" 117 y_Model_empty,
  .instanceMethod y_Model_empty,
  .selects "TaleMachineModel" y_Model_empty y_Model_empty,
  .fieldLink "TaleMachineModel" 16 "TaleMachineModel" "saved" "[Z",
  .fieldLink "TaleMachineModel" 147 "TaleMachineModel" "resultKind" "I",
  .fieldLink "TaleMachineModel" 150 "TaleMachineModel" "resultNumber" "I",
  .code y_Model_mark prog_10_method_48_code 4 (some .int),
  .methodLink "TaleMachineModel" 232 y_Model_mark,
  .instanceMethod y_Model_mark,
  .selects "TaleMachineModel" y_Model_mark y_Model_mark,
  .fieldLink "TaleMachineModel" 130 "TaleMachineModel" "height" "I",
  .fieldLink "TaleMachineModel" 127 "TaleMachineModel" "depth" "I",
  .code y_Model_refuse prog_10_method_3_code 2 (some .int),
  .methodLink "TaleMachineModel" 238 y_Model_refuse,
  .instanceMethod y_Model_refuse,
  .selects "TaleMachineModel" y_Model_refuse y_Model_refuse,
  .fieldLink "TaleMachineModel" 144 "TaleMachineModel" "said" "I",
  .fieldLink "TaleMachineModel" 153 "TaleMachineModel" "points" "I",
  .methodLink "TaleMachine$Script" 3 objectInit,
  .instanceMethod objectInit,
  .code objectInit object_method_1_code 1 none,
  .arrayClass .int,
  .fieldLink "TaleMachine$Script" 9 "TaleMachine$Script" "bytes" "[I",
  .methodLink "TaleMachine$Frame" 1 objectInit,
  .methodLink "TaleMachine$Values" 1 objectInit,
  .fieldLink "TaleMachine$Values" 7 "TaleMachine$Values" "kinds" "[I",
  .fieldLink "TaleMachine$Values" 13 "TaleMachine$Values" "ints" "[I",
  .methodLink "TaleMachine$State" 3 objectInit,
  .fieldLink "TaleMachine$State" 9 "TaleMachine$State" "kinds" "[I",
  .fieldLink "TaleMachine$State" 15 "TaleMachine$State" "ints" "[I",
  .fieldLink "TaleMachine$State" 18 "TaleMachine$State" "parents" "[I",
  .code y_Arrays_fill prog_19_method_103_code 4 none,
  .methodLink "TaleMachine$State" 21 y_Arrays_fill,
  .static y_Arrays_fill,
  .initialized "java/util/Arrays",
  .methodLink "TaleMachine$World" 3 objectInit,
  .classLink "TaleMachine$World" 9 "TaleMachine$State"]
def AW_1 : List Cond := [.instantiable "TaleMachine$State" 3,
  .initialized "TaleMachine$State",
  .code y_State_init prog_5_method_1_code 1 none,
  .methodLink "TaleMachine$World" 11 y_State_init,
  .instanceMethod y_State_init,
  .fieldLink "TaleMachine$World" 12 "TaleMachine$World" "now" "LTaleMachine$State;",
  .fieldLink "TaleMachine$World" 18 "TaleMachine$World" "fixedLines" "[I",
  .fieldLink "TaleMachine$World" 22 "TaleMachine$World" "fixedLengths" "[I",
  .fieldLink "TaleMachine$World" 25 "TaleMachine$World" "line" "[I",
  .fieldLink "TaleMachine$World" 28 "TaleMachine$World" "reached" "[I",
  .methodLink "TaleMachine$History" 3 objectInit,
  .classLink "TaleMachine$History" 9 "TaleMachine$State",
  .fieldLink "TaleMachine$History" 11 "TaleMachine$History" "pointed" "[LTaleMachine$State;",
  .fieldLink "TaleMachine$History" 17 "TaleMachine$History" "saved" "[LTaleMachine$State;",
  .arrayClass .boolean,
  .fieldLink "TaleMachine$History" 20 "TaleMachine$History" "isSaved" "[Z",
  .methodLink "TaleMachine$History" 24 y_State_init,
  .methodLink "TaleMachine$Teller" 3 objectInit,
  .classLink "TaleMachine$Teller" 9 "TaleMachine$Frame",
  .fieldLink "TaleMachine$Teller" 11 "TaleMachine$Teller" "frames" "[LTaleMachine$Frame;",
  .classLink "TaleMachine$Teller" 17 "TaleMachine$Values",
  .instantiable "TaleMachine$Values" 3,
  .initialized "TaleMachine$Values",
  .code y_Values_init prog_7_method_1_code 2 none,
  .methodLink "TaleMachine$Teller" 19 y_Values_init,
  .instanceMethod y_Values_init,
  .fieldLink "TaleMachine$Teller" 22 "TaleMachine$Teller" "values" "LTaleMachine$Values;",
  .fieldLink "TaleMachine$Teller" 26 "TaleMachine$Teller" "sayings" "LTaleMachine$Values;",
  .fieldLink "TaleMachine$Teller" 29 "TaleMachine$Teller" "result" "LTaleMachine$Values;",
  .fieldLink "TaleMachine$Teller" 32 "TaleMachine$Teller" "outcome" "I",
  .fieldLink "TaleMachine$Teller" 36 "TaleMachine$Teller" "script" "LTaleMachine$Script;",
  .fieldLink "TaleMachine$Teller" 40 "TaleMachine$Teller" "world" "LTaleMachine$World;",
  .fieldLink "TaleMachine$Teller" 44 "TaleMachine$Teller" "history" "LTaleMachine$History;",
  .instantiable "TaleMachine$Frame" 8,
  .initialized "TaleMachine$Frame",
  .code y_Frame_init prog_2_method_1_code 1 none,
  .instanceMethod y_Frame_init,
  .lays "TaleMachine$Frame" "TaleMachine$Frame" "method" "I",
  .lays "TaleMachine$Frame" "TaleMachine$Frame" "beginning" "I",
  .lays "TaleMachine$Frame" "TaleMachine$Frame" "self" "I",
  .lays "TaleMachine$Frame" "TaleMachine$Frame" "found" "I",
  .lays "TaleMachine$Frame" "TaleMachine$Frame" "place" "I",
  .lays "TaleMachine$Frame" "TaleMachine$Frame" "behind" "I",
  .lays "TaleMachine$Frame" "TaleMachine$Frame" "base" "I",
  .lays "TaleMachine$Frame" "TaleMachine$Frame" "floor" "I",
  .laysFinal "TaleMachine$History" "TaleMachine$History" "pointed" "[LTaleMachine$State;",
  .laysFinal "TaleMachine$History" "TaleMachine$History" "saved" "[LTaleMachine$State;",
  .laysFinal "TaleMachine$History" "TaleMachine$History" "isSaved" "[Z",
  .lays "TaleMachine$History" "TaleMachine$History" "points" "I",
  .laysFinal "TaleMachine$Script" "TaleMachine$Script" "bytes" "[I",
  .lays "TaleMachine$Script" "TaleMachine$Script" "length" "I",
  .laysFinal "TaleMachine$State" "TaleMachine$State" "kinds" "[I",
  .laysFinal "TaleMachine$State" "TaleMachine$State" "ints" "[I",
  .laysFinal "TaleMachine$State" "TaleMachine$State" "parents" "[I",
  .laysFinal "TaleMachine$Teller" "TaleMachine$Teller" "script" "LTaleMachine$Script;",
  .laysFinal "TaleMachine$Teller" "TaleMachine$Teller" "world" "LTaleMachine$World;",
  .laysFinal "TaleMachine$Teller" "TaleMachine$Teller" "history" "LTaleMachine$History;",
  .laysFinal "TaleMachine$Teller" "TaleMachine$Teller" "frames" "[LTaleMachine$Frame;",
  .laysFinal "TaleMachine$Teller" "TaleMachine$Teller" "values" "LTaleMachine$Values;",
  .laysFinal "TaleMachine$Teller" "TaleMachine$Teller" "sayings" "LTaleMachine$Values;"]
def AW_2 : List Cond := [.laysFinal "TaleMachine$Teller" "TaleMachine$Teller" "result" "LTaleMachine$Values;",
  .lays "TaleMachine$Teller" "TaleMachine$Teller" "depth" "I",
  .lays "TaleMachine$Teller" "TaleMachine$Teller" "outcome" "I",
  .laysFinal "TaleMachine$Values" "TaleMachine$Values" "kinds" "[I",
  .laysFinal "TaleMachine$Values" "TaleMachine$Values" "ints" "[I",
  .lays "TaleMachine$Values" "TaleMachine$Values" "count" "I",
  .laysFinal "TaleMachine$World" "TaleMachine$World" "now" "LTaleMachine$State;",
  .lays "TaleMachine$World" "TaleMachine$World" "fixed" "I",
  .laysFinal "TaleMachine$World" "TaleMachine$World" "fixedLines" "[I",
  .laysFinal "TaleMachine$World" "TaleMachine$World" "fixedLengths" "[I",
  .laysFinal "TaleMachine$World" "TaleMachine$World" "line" "[I",
  .lays "TaleMachine$World" "TaleMachine$World" "length" "I",
  .laysFinal "TaleMachine$World" "TaleMachine$World" "reached" "[I",
  .lays "TaleMachine$World" "TaleMachine$World" "reachedCount" "I",
  .lays "TaleMachine$World" "TaleMachine$World" "reachedBits" "I",
  .laysFinal "TaleMachine" "TaleMachine" "script" "LTaleMachine$Script;",
  .laysFinal "TaleMachine" "TaleMachine" "world" "LTaleMachine$World;",
  .laysFinal "TaleMachine" "TaleMachine" "history" "LTaleMachine$History;",
  .laysFinal "TaleMachine" "TaleMachine" "teller" "LTaleMachine$Teller;",
  .lays "TaleMachineModel" "TaleMachineModel" "code" "I",
  .laysFinal "TaleMachineModel" "TaleMachineModel" "bytes" "[I",
  .lays "TaleMachineModel" "TaleMachineModel" "size" "I",
  .laysFinal "TaleMachineModel" "TaleMachineModel" "w" "[I",
  .lays "TaleMachineModel" "TaleMachineModel" "fixed" "I",
  .lays "TaleMachineModel" "TaleMachineModel" "points" "I",
  .laysFinal "TaleMachineModel" "TaleMachineModel" "saved" "[Z",
  .lays "TaleMachineModel" "TaleMachineModel" "length" "I",
  .laysFinal "TaleMachineModel" "TaleMachineModel" "line" "[I",
  .laysFinal "TaleMachineModel" "TaleMachineModel" "met" "[Z",
  .laysFinal "TaleMachineModel" "TaleMachineModel" "waiting" "[I",
  .laysFinal "TaleMachineModel" "TaleMachineModel" "nextParent" "[I",
  .lays "TaleMachineModel" "TaleMachineModel" "height" "I",
  .laysFinal "TaleMachineModel" "TaleMachineModel" "kind" "[I",
  .laysFinal "TaleMachineModel" "TaleMachineModel" "number" "[I",
  .lays "TaleMachineModel" "TaleMachineModel" "depth" "I",
  .laysFinal "TaleMachineModel" "TaleMachineModel" "begin" "[I",
  .laysFinal "TaleMachineModel" "TaleMachineModel" "table" "[I",
  .laysFinal "TaleMachineModel" "TaleMachineModel" "handlers" "[I",
  .laysFinal "TaleMachineModel" "TaleMachineModel" "base" "[I",
  .laysFinal "TaleMachineModel" "TaleMachineModel" "locals" "[I",
  .laysFinal "TaleMachineModel" "TaleMachineModel" "self" "[I",
  .laysFinal "TaleMachineModel" "TaleMachineModel" "found" "[I",
  .laysFinal "TaleMachineModel" "TaleMachineModel" "place" "[I",
  .laysFinal "TaleMachineModel" "TaleMachineModel" "next" "[I",
  .lays "TaleMachineModel" "TaleMachineModel" "said" "I",
  .laysFinal "TaleMachineModel" "TaleMachineModel" "saidKind" "[I",
  .laysFinal "TaleMachineModel" "TaleMachineModel" "saidNumber" "[I",
  .lays "TaleMachineModel" "TaleMachineModel" "resultKind" "I",
  .lays "TaleMachineModel" "TaleMachineModel" "resultNumber" "I",
  .lays "TaleMachineModel" "TaleMachineModel" "ended" "I"]
def AW : List Cond := AW_0 ++ (AW_1 ++ (AW_2))
theorem k_0 : (.fieldLink "TaleMachineModel" 75 "TaleMachineModel" "code" "I" : Cond) ∈ AW := List.mem_of_getElem? (i := 0) rfl
theorem k_1 : (.code y_Model_outside prog_10_method_4_code 3 (some .boolean) : Cond) ∈ AW := List.mem_of_getElem? (i := 1) rfl
theorem k_2 : (.methodLink "TaleMachineModel" 78 y_Model_outside : Cond) ∈ AW := List.mem_of_getElem? (i := 2) rfl
theorem k_3 : (.static y_Model_outside : Cond) ∈ AW := List.mem_of_getElem? (i := 3) rfl
theorem k_4 : (.initialized "TaleMachineModel" : Cond) ∈ AW := List.mem_of_getElem? (i := 4) rfl
theorem k_5 : (.fieldLink "TaleMachineModel" 13 "TaleMachineModel" "w" "[I" : Cond) ∈ AW := List.mem_of_getElem? (i := 5) rfl
theorem k_6 : (.code y_Model_isThere prog_10_method_5_code 2 (some .boolean) : Cond) ∈ AW := List.mem_of_getElem? (i := 6) rfl
theorem k_7 : (.methodLink "TaleMachineModel" 107 y_Model_isThere : Cond) ∈ AW := List.mem_of_getElem? (i := 7) rfl
theorem k_8 : (.instanceMethod y_Model_isThere : Cond) ∈ AW := List.mem_of_getElem? (i := 8) rfl
theorem k_9 : (.selects "TaleMachineModel" y_Model_isThere y_Model_isThere : Cond) ∈ AW := List.mem_of_getElem? (i := 9) rfl
theorem k_10 : (.code y_Model_placeOf prog_10_method_8_code 3 (some .int) : Cond) ∈ AW := List.mem_of_getElem? (i := 10) rfl
theorem k_11 : (.methodLink "TaleMachineModel" 82 y_Model_placeOf : Cond) ∈ AW := List.mem_of_getElem? (i := 11) rfl
theorem k_12 : (.instanceMethod y_Model_placeOf : Cond) ∈ AW := List.mem_of_getElem? (i := 12) rfl
theorem k_13 : (.selects "TaleMachineModel" y_Model_placeOf y_Model_placeOf : Cond) ∈ AW := List.mem_of_getElem? (i := 13) rfl
theorem k_14 : (.fieldLink "TaleMachineModel" 104 "TaleMachineModel" "size" "I" : Cond) ∈ AW := List.mem_of_getElem? (i := 14) rfl
theorem k_15 : (.fieldLink "TaleMachineModel" 7 "TaleMachineModel" "bytes" "[I" : Cond) ∈ AW := List.mem_of_getElem? (i := 15) rfl
theorem k_16 : (.code y_Model_isParent prog_10_method_17_code 2 (some .boolean) : Cond) ∈ AW := List.mem_of_getElem? (i := 16) rfl
theorem k_17 : (.methodLink "TaleMachineModel" 111 y_Model_isParent : Cond) ∈ AW := List.mem_of_getElem? (i := 17) rfl
theorem k_18 : (.instanceMethod y_Model_isParent : Cond) ∈ AW := List.mem_of_getElem? (i := 18) rfl
theorem k_19 : (.selects "TaleMachineModel" y_Model_isParent y_Model_isParent : Cond) ∈ AW := List.mem_of_getElem? (i := 19) rfl
theorem k_20 : (.fieldLink "TaleMachineModel" 71 "TaleMachineModel" "ended" "I" : Cond) ∈ AW := List.mem_of_getElem? (i := 20) rfl
theorem k_21 : (.fieldLink "TaleMachineModel" 114 "TaleMachineModel" "fixed" "I" : Cond) ∈ AW := List.mem_of_getElem? (i := 21) rfl
theorem k_22 : (.code y_Model_empty prog_10_method_11_code 3 none : Cond) ∈ AW := List.mem_of_getElem? (i := 22) rfl
theorem k_23 : (.methodLink "TaleMachineModel" 117 y_Model_empty : Cond) ∈ AW := List.mem_of_getElem? (i := 23) rfl
theorem k_24 : (.instanceMethod y_Model_empty : Cond) ∈ AW := List.mem_of_getElem? (i := 24) rfl
theorem k_25 : (.selects "TaleMachineModel" y_Model_empty y_Model_empty : Cond) ∈ AW := List.mem_of_getElem? (i := 25) rfl
theorem k_26 : (.fieldLink "TaleMachineModel" 16 "TaleMachineModel" "saved" "[Z" : Cond) ∈ AW := List.mem_of_getElem? (i := 26) rfl
theorem k_27 : (.fieldLink "TaleMachineModel" 147 "TaleMachineModel" "resultKind" "I" : Cond) ∈ AW := List.mem_of_getElem? (i := 27) rfl
theorem k_28 : (.fieldLink "TaleMachineModel" 150 "TaleMachineModel" "resultNumber" "I" : Cond) ∈ AW := List.mem_of_getElem? (i := 28) rfl
theorem k_29 : (.code y_Model_mark prog_10_method_48_code 4 (some .int) : Cond) ∈ AW := List.mem_of_getElem? (i := 29) rfl
theorem k_30 : (.methodLink "TaleMachineModel" 232 y_Model_mark : Cond) ∈ AW := List.mem_of_getElem? (i := 30) rfl
theorem k_31 : (.instanceMethod y_Model_mark : Cond) ∈ AW := List.mem_of_getElem? (i := 31) rfl
theorem k_32 : (.selects "TaleMachineModel" y_Model_mark y_Model_mark : Cond) ∈ AW := List.mem_of_getElem? (i := 32) rfl
theorem k_33 : (.fieldLink "TaleMachineModel" 130 "TaleMachineModel" "height" "I" : Cond) ∈ AW := List.mem_of_getElem? (i := 33) rfl
theorem k_34 : (.fieldLink "TaleMachineModel" 127 "TaleMachineModel" "depth" "I" : Cond) ∈ AW := List.mem_of_getElem? (i := 34) rfl
theorem k_35 : (.code y_Model_refuse prog_10_method_3_code 2 (some .int) : Cond) ∈ AW := List.mem_of_getElem? (i := 35) rfl
theorem k_36 : (.methodLink "TaleMachineModel" 238 y_Model_refuse : Cond) ∈ AW := List.mem_of_getElem? (i := 36) rfl
theorem k_37 : (.instanceMethod y_Model_refuse : Cond) ∈ AW := List.mem_of_getElem? (i := 37) rfl
theorem k_38 : (.selects "TaleMachineModel" y_Model_refuse y_Model_refuse : Cond) ∈ AW := List.mem_of_getElem? (i := 38) rfl
theorem k_39 : (.fieldLink "TaleMachineModel" 144 "TaleMachineModel" "said" "I" : Cond) ∈ AW := List.mem_of_getElem? (i := 39) rfl
theorem k_40 : (.fieldLink "TaleMachineModel" 153 "TaleMachineModel" "points" "I" : Cond) ∈ AW := List.mem_of_getElem? (i := 40) rfl
theorem k_41 : (.methodLink "TaleMachine$Script" 3 objectInit : Cond) ∈ AW := List.mem_of_getElem? (i := 41) rfl
theorem k_42 : (.instanceMethod objectInit : Cond) ∈ AW := List.mem_of_getElem? (i := 42) rfl
theorem k_43 : (.code objectInit object_method_1_code 1 none : Cond) ∈ AW := List.mem_of_getElem? (i := 43) rfl
theorem k_44 : (.arrayClass .int : Cond) ∈ AW := List.mem_of_getElem? (i := 44) rfl
theorem k_45 : (.fieldLink "TaleMachine$Script" 9 "TaleMachine$Script" "bytes" "[I" : Cond) ∈ AW := List.mem_of_getElem? (i := 45) rfl
theorem k_46 : (.methodLink "TaleMachine$Frame" 1 objectInit : Cond) ∈ AW := List.mem_of_getElem? (i := 46) rfl
theorem k_47 : (.methodLink "TaleMachine$Values" 1 objectInit : Cond) ∈ AW := List.mem_of_getElem? (i := 47) rfl
theorem k_48 : (.fieldLink "TaleMachine$Values" 7 "TaleMachine$Values" "kinds" "[I" : Cond) ∈ AW := List.mem_of_getElem? (i := 48) rfl
theorem k_49 : (.fieldLink "TaleMachine$Values" 13 "TaleMachine$Values" "ints" "[I" : Cond) ∈ AW := List.mem_of_getElem? (i := 49) rfl
theorem k_50 : (.methodLink "TaleMachine$State" 3 objectInit : Cond) ∈ AW := List.mem_of_getElem? (i := 50) rfl
theorem k_51 : (.fieldLink "TaleMachine$State" 9 "TaleMachine$State" "kinds" "[I" : Cond) ∈ AW := List.mem_of_getElem? (i := 51) rfl
theorem k_52 : (.fieldLink "TaleMachine$State" 15 "TaleMachine$State" "ints" "[I" : Cond) ∈ AW := List.mem_of_getElem? (i := 52) rfl
theorem k_53 : (.fieldLink "TaleMachine$State" 18 "TaleMachine$State" "parents" "[I" : Cond) ∈ AW := List.mem_of_getElem? (i := 53) rfl
theorem k_54 : (.code y_Arrays_fill prog_19_method_103_code 4 none : Cond) ∈ AW := List.mem_of_getElem? (i := 54) rfl
theorem k_55 : (.methodLink "TaleMachine$State" 21 y_Arrays_fill : Cond) ∈ AW := List.mem_of_getElem? (i := 55) rfl
theorem k_56 : (.static y_Arrays_fill : Cond) ∈ AW := List.mem_of_getElem? (i := 56) rfl
theorem k_57 : (.initialized "java/util/Arrays" : Cond) ∈ AW := List.mem_of_getElem? (i := 57) rfl
theorem k_58 : (.methodLink "TaleMachine$World" 3 objectInit : Cond) ∈ AW := List.mem_of_getElem? (i := 58) rfl
theorem k_59 : (.classLink "TaleMachine$World" 9 "TaleMachine$State" : Cond) ∈ AW := List.mem_of_getElem? (i := 59) rfl
theorem k_60 : (.instantiable "TaleMachine$State" 3 : Cond) ∈ AW := List.mem_of_getElem? (i := 60) rfl
theorem k_61 : (.initialized "TaleMachine$State" : Cond) ∈ AW := List.mem_of_getElem? (i := 61) rfl
theorem k_62 : (.code y_State_init prog_5_method_1_code 1 none : Cond) ∈ AW := List.mem_of_getElem? (i := 62) rfl
theorem k_63 : (.methodLink "TaleMachine$World" 11 y_State_init : Cond) ∈ AW := List.mem_of_getElem? (i := 63) rfl
theorem k_64 : (.instanceMethod y_State_init : Cond) ∈ AW := List.mem_of_getElem? (i := 64) rfl
theorem k_65 : (.fieldLink "TaleMachine$World" 12 "TaleMachine$World" "now" "LTaleMachine$State;" : Cond) ∈ AW := List.mem_of_getElem? (i := 65) rfl
theorem k_66 : (.fieldLink "TaleMachine$World" 18 "TaleMachine$World" "fixedLines" "[I" : Cond) ∈ AW := List.mem_of_getElem? (i := 66) rfl
theorem k_67 : (.fieldLink "TaleMachine$World" 22 "TaleMachine$World" "fixedLengths" "[I" : Cond) ∈ AW := List.mem_of_getElem? (i := 67) rfl
theorem k_68 : (.fieldLink "TaleMachine$World" 25 "TaleMachine$World" "line" "[I" : Cond) ∈ AW := List.mem_of_getElem? (i := 68) rfl
theorem k_69 : (.fieldLink "TaleMachine$World" 28 "TaleMachine$World" "reached" "[I" : Cond) ∈ AW := List.mem_of_getElem? (i := 69) rfl
theorem k_70 : (.methodLink "TaleMachine$History" 3 objectInit : Cond) ∈ AW := List.mem_of_getElem? (i := 70) rfl
theorem k_71 : (.classLink "TaleMachine$History" 9 "TaleMachine$State" : Cond) ∈ AW := List.mem_of_getElem? (i := 71) rfl
theorem k_72 : (.fieldLink "TaleMachine$History" 11 "TaleMachine$History" "pointed" "[LTaleMachine$State;" : Cond) ∈ AW := List.mem_of_getElem? (i := 72) rfl
theorem k_73 : (.fieldLink "TaleMachine$History" 17 "TaleMachine$History" "saved" "[LTaleMachine$State;" : Cond) ∈ AW := List.mem_of_getElem? (i := 73) rfl
theorem k_74 : (.arrayClass .boolean : Cond) ∈ AW := List.mem_of_getElem? (i := 74) rfl
theorem k_75 : (.fieldLink "TaleMachine$History" 20 "TaleMachine$History" "isSaved" "[Z" : Cond) ∈ AW := List.mem_of_getElem? (i := 75) rfl
theorem k_76 : (.methodLink "TaleMachine$History" 24 y_State_init : Cond) ∈ AW := List.mem_of_getElem? (i := 76) rfl
theorem k_77 : (.methodLink "TaleMachine$Teller" 3 objectInit : Cond) ∈ AW := List.mem_of_getElem? (i := 77) rfl
theorem k_78 : (.classLink "TaleMachine$Teller" 9 "TaleMachine$Frame" : Cond) ∈ AW := List.mem_of_getElem? (i := 78) rfl
theorem k_79 : (.fieldLink "TaleMachine$Teller" 11 "TaleMachine$Teller" "frames" "[LTaleMachine$Frame;" : Cond) ∈ AW := List.mem_of_getElem? (i := 79) rfl
theorem k_80 : (.classLink "TaleMachine$Teller" 17 "TaleMachine$Values" : Cond) ∈ AW := List.mem_of_getElem? (i := 80) rfl
theorem k_81 : (.instantiable "TaleMachine$Values" 3 : Cond) ∈ AW := List.mem_of_getElem? (i := 81) rfl
theorem k_82 : (.initialized "TaleMachine$Values" : Cond) ∈ AW := List.mem_of_getElem? (i := 82) rfl
theorem k_83 : (.code y_Values_init prog_7_method_1_code 2 none : Cond) ∈ AW := List.mem_of_getElem? (i := 83) rfl
theorem k_84 : (.methodLink "TaleMachine$Teller" 19 y_Values_init : Cond) ∈ AW := List.mem_of_getElem? (i := 84) rfl
theorem k_85 : (.instanceMethod y_Values_init : Cond) ∈ AW := List.mem_of_getElem? (i := 85) rfl
theorem k_86 : (.fieldLink "TaleMachine$Teller" 22 "TaleMachine$Teller" "values" "LTaleMachine$Values;" : Cond) ∈ AW := List.mem_of_getElem? (i := 86) rfl
theorem k_87 : (.fieldLink "TaleMachine$Teller" 26 "TaleMachine$Teller" "sayings" "LTaleMachine$Values;" : Cond) ∈ AW := List.mem_of_getElem? (i := 87) rfl
theorem k_88 : (.fieldLink "TaleMachine$Teller" 29 "TaleMachine$Teller" "result" "LTaleMachine$Values;" : Cond) ∈ AW := List.mem_of_getElem? (i := 88) rfl
theorem k_89 : (.fieldLink "TaleMachine$Teller" 32 "TaleMachine$Teller" "outcome" "I" : Cond) ∈ AW := List.mem_of_getElem? (i := 89) rfl
theorem k_90 : (.fieldLink "TaleMachine$Teller" 36 "TaleMachine$Teller" "script" "LTaleMachine$Script;" : Cond) ∈ AW := List.mem_of_getElem? (i := 90) rfl
theorem k_91 : (.fieldLink "TaleMachine$Teller" 40 "TaleMachine$Teller" "world" "LTaleMachine$World;" : Cond) ∈ AW := List.mem_of_getElem? (i := 91) rfl
theorem k_92 : (.fieldLink "TaleMachine$Teller" 44 "TaleMachine$Teller" "history" "LTaleMachine$History;" : Cond) ∈ AW := List.mem_of_getElem? (i := 92) rfl
theorem k_93 : (.instantiable "TaleMachine$Frame" 8 : Cond) ∈ AW := List.mem_of_getElem? (i := 93) rfl
theorem k_94 : (.initialized "TaleMachine$Frame" : Cond) ∈ AW := List.mem_of_getElem? (i := 94) rfl
theorem k_95 : (.code y_Frame_init prog_2_method_1_code 1 none : Cond) ∈ AW := List.mem_of_getElem? (i := 95) rfl
theorem k_96 : (.instanceMethod y_Frame_init : Cond) ∈ AW := List.mem_of_getElem? (i := 96) rfl
theorem k_97 : (.lays "TaleMachine$Frame" "TaleMachine$Frame" "method" "I" : Cond) ∈ AW := List.mem_of_getElem? (i := 97) rfl
theorem k_98 : (.lays "TaleMachine$Frame" "TaleMachine$Frame" "beginning" "I" : Cond) ∈ AW := List.mem_of_getElem? (i := 98) rfl
theorem k_99 : (.lays "TaleMachine$Frame" "TaleMachine$Frame" "self" "I" : Cond) ∈ AW := List.mem_of_getElem? (i := 99) rfl
theorem k_100 : (.lays "TaleMachine$Frame" "TaleMachine$Frame" "found" "I" : Cond) ∈ AW := List.mem_of_getElem? (i := 100) rfl
theorem k_101 : (.lays "TaleMachine$Frame" "TaleMachine$Frame" "place" "I" : Cond) ∈ AW := List.mem_of_getElem? (i := 101) rfl
theorem k_102 : (.lays "TaleMachine$Frame" "TaleMachine$Frame" "behind" "I" : Cond) ∈ AW := List.mem_of_getElem? (i := 102) rfl
theorem k_103 : (.lays "TaleMachine$Frame" "TaleMachine$Frame" "base" "I" : Cond) ∈ AW := List.mem_of_getElem? (i := 103) rfl
theorem k_104 : (.lays "TaleMachine$Frame" "TaleMachine$Frame" "floor" "I" : Cond) ∈ AW := List.mem_of_getElem? (i := 104) rfl
theorem k_105 : (.laysFinal "TaleMachine$History" "TaleMachine$History" "pointed" "[LTaleMachine$State;" : Cond) ∈ AW := List.mem_of_getElem? (i := 105) rfl
theorem k_106 : (.laysFinal "TaleMachine$History" "TaleMachine$History" "saved" "[LTaleMachine$State;" : Cond) ∈ AW := List.mem_of_getElem? (i := 106) rfl
theorem k_107 : (.laysFinal "TaleMachine$History" "TaleMachine$History" "isSaved" "[Z" : Cond) ∈ AW := List.mem_of_getElem? (i := 107) rfl
theorem k_108 : (.lays "TaleMachine$History" "TaleMachine$History" "points" "I" : Cond) ∈ AW := List.mem_of_getElem? (i := 108) rfl
theorem k_109 : (.laysFinal "TaleMachine$Script" "TaleMachine$Script" "bytes" "[I" : Cond) ∈ AW := List.mem_of_getElem? (i := 109) rfl
theorem k_110 : (.lays "TaleMachine$Script" "TaleMachine$Script" "length" "I" : Cond) ∈ AW := List.mem_of_getElem? (i := 110) rfl
theorem k_111 : (.laysFinal "TaleMachine$State" "TaleMachine$State" "kinds" "[I" : Cond) ∈ AW := List.mem_of_getElem? (i := 111) rfl
theorem k_112 : (.laysFinal "TaleMachine$State" "TaleMachine$State" "ints" "[I" : Cond) ∈ AW := List.mem_of_getElem? (i := 112) rfl
theorem k_113 : (.laysFinal "TaleMachine$State" "TaleMachine$State" "parents" "[I" : Cond) ∈ AW := List.mem_of_getElem? (i := 113) rfl
theorem k_114 : (.laysFinal "TaleMachine$Teller" "TaleMachine$Teller" "script" "LTaleMachine$Script;" : Cond) ∈ AW := List.mem_of_getElem? (i := 114) rfl
theorem k_115 : (.laysFinal "TaleMachine$Teller" "TaleMachine$Teller" "world" "LTaleMachine$World;" : Cond) ∈ AW := List.mem_of_getElem? (i := 115) rfl
theorem k_116 : (.laysFinal "TaleMachine$Teller" "TaleMachine$Teller" "history" "LTaleMachine$History;" : Cond) ∈ AW := List.mem_of_getElem? (i := 116) rfl
theorem k_117 : (.laysFinal "TaleMachine$Teller" "TaleMachine$Teller" "frames" "[LTaleMachine$Frame;" : Cond) ∈ AW := List.mem_of_getElem? (i := 117) rfl
theorem k_118 : (.laysFinal "TaleMachine$Teller" "TaleMachine$Teller" "values" "LTaleMachine$Values;" : Cond) ∈ AW := List.mem_of_getElem? (i := 118) rfl
theorem k_119 : (.laysFinal "TaleMachine$Teller" "TaleMachine$Teller" "sayings" "LTaleMachine$Values;" : Cond) ∈ AW := List.mem_of_getElem? (i := 119) rfl
theorem k_120 : (.laysFinal "TaleMachine$Teller" "TaleMachine$Teller" "result" "LTaleMachine$Values;" : Cond) ∈ AW := List.mem_of_getElem? (i := 120) rfl
theorem k_121 : (.lays "TaleMachine$Teller" "TaleMachine$Teller" "depth" "I" : Cond) ∈ AW := List.mem_of_getElem? (i := 121) rfl
theorem k_122 : (.lays "TaleMachine$Teller" "TaleMachine$Teller" "outcome" "I" : Cond) ∈ AW := List.mem_of_getElem? (i := 122) rfl
theorem k_123 : (.laysFinal "TaleMachine$Values" "TaleMachine$Values" "kinds" "[I" : Cond) ∈ AW := List.mem_of_getElem? (i := 123) rfl
theorem k_124 : (.laysFinal "TaleMachine$Values" "TaleMachine$Values" "ints" "[I" : Cond) ∈ AW := List.mem_of_getElem? (i := 124) rfl
theorem k_125 : (.lays "TaleMachine$Values" "TaleMachine$Values" "count" "I" : Cond) ∈ AW := List.mem_of_getElem? (i := 125) rfl
theorem k_126 : (.laysFinal "TaleMachine$World" "TaleMachine$World" "now" "LTaleMachine$State;" : Cond) ∈ AW := List.mem_of_getElem? (i := 126) rfl
theorem k_127 : (.lays "TaleMachine$World" "TaleMachine$World" "fixed" "I" : Cond) ∈ AW := List.mem_of_getElem? (i := 127) rfl
theorem k_128 : (.laysFinal "TaleMachine$World" "TaleMachine$World" "fixedLines" "[I" : Cond) ∈ AW := List.mem_of_getElem? (i := 128) rfl
theorem k_129 : (.laysFinal "TaleMachine$World" "TaleMachine$World" "fixedLengths" "[I" : Cond) ∈ AW := List.mem_of_getElem? (i := 129) rfl
theorem k_130 : (.laysFinal "TaleMachine$World" "TaleMachine$World" "line" "[I" : Cond) ∈ AW := List.mem_of_getElem? (i := 130) rfl
theorem k_131 : (.lays "TaleMachine$World" "TaleMachine$World" "length" "I" : Cond) ∈ AW := List.mem_of_getElem? (i := 131) rfl
theorem k_132 : (.laysFinal "TaleMachine$World" "TaleMachine$World" "reached" "[I" : Cond) ∈ AW := List.mem_of_getElem? (i := 132) rfl
theorem k_133 : (.lays "TaleMachine$World" "TaleMachine$World" "reachedCount" "I" : Cond) ∈ AW := List.mem_of_getElem? (i := 133) rfl
theorem k_134 : (.lays "TaleMachine$World" "TaleMachine$World" "reachedBits" "I" : Cond) ∈ AW := List.mem_of_getElem? (i := 134) rfl
theorem k_135 : (.laysFinal "TaleMachine" "TaleMachine" "script" "LTaleMachine$Script;" : Cond) ∈ AW := List.mem_of_getElem? (i := 135) rfl
theorem k_136 : (.laysFinal "TaleMachine" "TaleMachine" "world" "LTaleMachine$World;" : Cond) ∈ AW := List.mem_of_getElem? (i := 136) rfl
theorem k_137 : (.laysFinal "TaleMachine" "TaleMachine" "history" "LTaleMachine$History;" : Cond) ∈ AW := List.mem_of_getElem? (i := 137) rfl
theorem k_138 : (.laysFinal "TaleMachine" "TaleMachine" "teller" "LTaleMachine$Teller;" : Cond) ∈ AW := List.mem_of_getElem? (i := 138) rfl
theorem k_139 : (.lays "TaleMachineModel" "TaleMachineModel" "code" "I" : Cond) ∈ AW := List.mem_of_getElem? (i := 139) rfl
theorem k_140 : (.laysFinal "TaleMachineModel" "TaleMachineModel" "bytes" "[I" : Cond) ∈ AW := List.mem_of_getElem? (i := 140) rfl
theorem k_141 : (.lays "TaleMachineModel" "TaleMachineModel" "size" "I" : Cond) ∈ AW := List.mem_of_getElem? (i := 141) rfl
theorem k_142 : (.laysFinal "TaleMachineModel" "TaleMachineModel" "w" "[I" : Cond) ∈ AW := List.mem_of_getElem? (i := 142) rfl
theorem k_143 : (.lays "TaleMachineModel" "TaleMachineModel" "fixed" "I" : Cond) ∈ AW := List.mem_of_getElem? (i := 143) rfl
theorem k_144 : (.lays "TaleMachineModel" "TaleMachineModel" "points" "I" : Cond) ∈ AW := List.mem_of_getElem? (i := 144) rfl
theorem k_145 : (.laysFinal "TaleMachineModel" "TaleMachineModel" "saved" "[Z" : Cond) ∈ AW := List.mem_of_getElem? (i := 145) rfl
theorem k_146 : (.lays "TaleMachineModel" "TaleMachineModel" "length" "I" : Cond) ∈ AW := List.mem_of_getElem? (i := 146) rfl
theorem k_147 : (.laysFinal "TaleMachineModel" "TaleMachineModel" "line" "[I" : Cond) ∈ AW := List.mem_of_getElem? (i := 147) rfl
theorem k_148 : (.laysFinal "TaleMachineModel" "TaleMachineModel" "met" "[Z" : Cond) ∈ AW := List.mem_of_getElem? (i := 148) rfl
theorem k_149 : (.laysFinal "TaleMachineModel" "TaleMachineModel" "waiting" "[I" : Cond) ∈ AW := List.mem_of_getElem? (i := 149) rfl
theorem k_150 : (.laysFinal "TaleMachineModel" "TaleMachineModel" "nextParent" "[I" : Cond) ∈ AW := List.mem_of_getElem? (i := 150) rfl
theorem k_151 : (.lays "TaleMachineModel" "TaleMachineModel" "height" "I" : Cond) ∈ AW := List.mem_of_getElem? (i := 151) rfl
theorem k_152 : (.laysFinal "TaleMachineModel" "TaleMachineModel" "kind" "[I" : Cond) ∈ AW := List.mem_of_getElem? (i := 152) rfl
theorem k_153 : (.laysFinal "TaleMachineModel" "TaleMachineModel" "number" "[I" : Cond) ∈ AW := List.mem_of_getElem? (i := 153) rfl
theorem k_154 : (.lays "TaleMachineModel" "TaleMachineModel" "depth" "I" : Cond) ∈ AW := List.mem_of_getElem? (i := 154) rfl
theorem k_155 : (.laysFinal "TaleMachineModel" "TaleMachineModel" "begin" "[I" : Cond) ∈ AW := List.mem_of_getElem? (i := 155) rfl
theorem k_156 : (.laysFinal "TaleMachineModel" "TaleMachineModel" "table" "[I" : Cond) ∈ AW := List.mem_of_getElem? (i := 156) rfl
theorem k_157 : (.laysFinal "TaleMachineModel" "TaleMachineModel" "handlers" "[I" : Cond) ∈ AW := List.mem_of_getElem? (i := 157) rfl
theorem k_158 : (.laysFinal "TaleMachineModel" "TaleMachineModel" "base" "[I" : Cond) ∈ AW := List.mem_of_getElem? (i := 158) rfl
theorem k_159 : (.laysFinal "TaleMachineModel" "TaleMachineModel" "locals" "[I" : Cond) ∈ AW := List.mem_of_getElem? (i := 159) rfl
theorem k_160 : (.laysFinal "TaleMachineModel" "TaleMachineModel" "self" "[I" : Cond) ∈ AW := List.mem_of_getElem? (i := 160) rfl
theorem k_161 : (.laysFinal "TaleMachineModel" "TaleMachineModel" "found" "[I" : Cond) ∈ AW := List.mem_of_getElem? (i := 161) rfl
theorem k_162 : (.laysFinal "TaleMachineModel" "TaleMachineModel" "place" "[I" : Cond) ∈ AW := List.mem_of_getElem? (i := 162) rfl
theorem k_163 : (.laysFinal "TaleMachineModel" "TaleMachineModel" "next" "[I" : Cond) ∈ AW := List.mem_of_getElem? (i := 163) rfl
theorem k_164 : (.lays "TaleMachineModel" "TaleMachineModel" "said" "I" : Cond) ∈ AW := List.mem_of_getElem? (i := 164) rfl
theorem k_165 : (.laysFinal "TaleMachineModel" "TaleMachineModel" "saidKind" "[I" : Cond) ∈ AW := List.mem_of_getElem? (i := 165) rfl
theorem k_166 : (.laysFinal "TaleMachineModel" "TaleMachineModel" "saidNumber" "[I" : Cond) ∈ AW := List.mem_of_getElem? (i := 166) rfl
theorem k_167 : (.lays "TaleMachineModel" "TaleMachineModel" "resultKind" "I" : Cond) ∈ AW := List.mem_of_getElem? (i := 167) rfl
theorem k_168 : (.lays "TaleMachineModel" "TaleMachineModel" "resultNumber" "I" : Cond) ∈ AW := List.mem_of_getElem? (i := 168) rfl
theorem k_169 : (.lays "TaleMachineModel" "TaleMachineModel" "ended" "I" : Cond) ∈ AW := List.mem_of_getElem? (i := 169) rfl
theorem AW_all : AW.all goodWord = true := by decide +kernel
theorem in_Frame : ∀ w ∈ u_ws "TaleMachine$Frame" F_Frame 8, w ∈ AW := by
  show ∀ w ∈ ([.lays "TaleMachine$Frame" "TaleMachine$Frame" "method" "I", .lays "TaleMachine$Frame" "TaleMachine$Frame" "beginning" "I", .lays "TaleMachine$Frame" "TaleMachine$Frame" "self" "I", .lays "TaleMachine$Frame" "TaleMachine$Frame" "found" "I", .lays "TaleMachine$Frame" "TaleMachine$Frame" "place" "I", .lays "TaleMachine$Frame" "TaleMachine$Frame" "behind" "I", .lays "TaleMachine$Frame" "TaleMachine$Frame" "base" "I", .lays "TaleMachine$Frame" "TaleMachine$Frame" "floor" "I"] : List Cond), w ∈ AW
  exact List.forall_mem_cons.mpr ⟨k_97, List.forall_mem_cons.mpr ⟨k_98, List.forall_mem_cons.mpr ⟨k_99, List.forall_mem_cons.mpr ⟨k_100, List.forall_mem_cons.mpr ⟨k_101, List.forall_mem_cons.mpr ⟨k_102, List.forall_mem_cons.mpr ⟨k_103, List.forall_mem_cons.mpr ⟨k_104, fun _ h => absurd h List.not_mem_nil⟩⟩⟩⟩⟩⟩⟩⟩
theorem in_History : ∀ w ∈ u_ws "TaleMachine$History" F_History 4, w ∈ AW := by
  show ∀ w ∈ ([.laysFinal "TaleMachine$History" "TaleMachine$History" "pointed" "[LTaleMachine$State;", .laysFinal "TaleMachine$History" "TaleMachine$History" "saved" "[LTaleMachine$State;", .laysFinal "TaleMachine$History" "TaleMachine$History" "isSaved" "[Z", .lays "TaleMachine$History" "TaleMachine$History" "points" "I"] : List Cond), w ∈ AW
  exact List.forall_mem_cons.mpr ⟨k_105, List.forall_mem_cons.mpr ⟨k_106, List.forall_mem_cons.mpr ⟨k_107, List.forall_mem_cons.mpr ⟨k_108, fun _ h => absurd h List.not_mem_nil⟩⟩⟩⟩
theorem in_Script : ∀ w ∈ u_ws "TaleMachine$Script" F_Script 2, w ∈ AW := by
  show ∀ w ∈ ([.laysFinal "TaleMachine$Script" "TaleMachine$Script" "bytes" "[I", .lays "TaleMachine$Script" "TaleMachine$Script" "length" "I"] : List Cond), w ∈ AW
  exact List.forall_mem_cons.mpr ⟨k_109, List.forall_mem_cons.mpr ⟨k_110, fun _ h => absurd h List.not_mem_nil⟩⟩
theorem in_State : ∀ w ∈ u_ws "TaleMachine$State" F_State 3, w ∈ AW := by
  show ∀ w ∈ ([.laysFinal "TaleMachine$State" "TaleMachine$State" "kinds" "[I", .laysFinal "TaleMachine$State" "TaleMachine$State" "ints" "[I", .laysFinal "TaleMachine$State" "TaleMachine$State" "parents" "[I"] : List Cond), w ∈ AW
  exact List.forall_mem_cons.mpr ⟨k_111, List.forall_mem_cons.mpr ⟨k_112, List.forall_mem_cons.mpr ⟨k_113, fun _ h => absurd h List.not_mem_nil⟩⟩⟩
theorem in_Teller : ∀ w ∈ u_ws "TaleMachine$Teller" F_Teller 9, w ∈ AW := by
  show ∀ w ∈ ([.laysFinal "TaleMachine$Teller" "TaleMachine$Teller" "script" "LTaleMachine$Script;", .laysFinal "TaleMachine$Teller" "TaleMachine$Teller" "world" "LTaleMachine$World;", .laysFinal "TaleMachine$Teller" "TaleMachine$Teller" "history" "LTaleMachine$History;", .laysFinal "TaleMachine$Teller" "TaleMachine$Teller" "frames" "[LTaleMachine$Frame;", .laysFinal "TaleMachine$Teller" "TaleMachine$Teller" "values" "LTaleMachine$Values;", .laysFinal "TaleMachine$Teller" "TaleMachine$Teller" "sayings" "LTaleMachine$Values;", .laysFinal "TaleMachine$Teller" "TaleMachine$Teller" "result" "LTaleMachine$Values;", .lays "TaleMachine$Teller" "TaleMachine$Teller" "depth" "I", .lays "TaleMachine$Teller" "TaleMachine$Teller" "outcome" "I"] : List Cond), w ∈ AW
  exact List.forall_mem_cons.mpr ⟨k_114, List.forall_mem_cons.mpr ⟨k_115, List.forall_mem_cons.mpr ⟨k_116, List.forall_mem_cons.mpr ⟨k_117, List.forall_mem_cons.mpr ⟨k_118, List.forall_mem_cons.mpr ⟨k_119, List.forall_mem_cons.mpr ⟨k_120, List.forall_mem_cons.mpr ⟨k_121, List.forall_mem_cons.mpr ⟨k_122, fun _ h => absurd h List.not_mem_nil⟩⟩⟩⟩⟩⟩⟩⟩⟩
theorem in_Values : ∀ w ∈ u_ws "TaleMachine$Values" F_Values 3, w ∈ AW := by
  show ∀ w ∈ ([.laysFinal "TaleMachine$Values" "TaleMachine$Values" "kinds" "[I", .laysFinal "TaleMachine$Values" "TaleMachine$Values" "ints" "[I", .lays "TaleMachine$Values" "TaleMachine$Values" "count" "I"] : List Cond), w ∈ AW
  exact List.forall_mem_cons.mpr ⟨k_123, List.forall_mem_cons.mpr ⟨k_124, List.forall_mem_cons.mpr ⟨k_125, fun _ h => absurd h List.not_mem_nil⟩⟩⟩
theorem in_World : ∀ w ∈ u_ws "TaleMachine$World" F_World 9, w ∈ AW := by
  show ∀ w ∈ ([.laysFinal "TaleMachine$World" "TaleMachine$World" "now" "LTaleMachine$State;", .lays "TaleMachine$World" "TaleMachine$World" "fixed" "I", .laysFinal "TaleMachine$World" "TaleMachine$World" "fixedLines" "[I", .laysFinal "TaleMachine$World" "TaleMachine$World" "fixedLengths" "[I", .laysFinal "TaleMachine$World" "TaleMachine$World" "line" "[I", .lays "TaleMachine$World" "TaleMachine$World" "length" "I", .laysFinal "TaleMachine$World" "TaleMachine$World" "reached" "[I", .lays "TaleMachine$World" "TaleMachine$World" "reachedCount" "I", .lays "TaleMachine$World" "TaleMachine$World" "reachedBits" "I"] : List Cond), w ∈ AW
  exact List.forall_mem_cons.mpr ⟨k_126, List.forall_mem_cons.mpr ⟨k_127, List.forall_mem_cons.mpr ⟨k_128, List.forall_mem_cons.mpr ⟨k_129, List.forall_mem_cons.mpr ⟨k_130, List.forall_mem_cons.mpr ⟨k_131, List.forall_mem_cons.mpr ⟨k_132, List.forall_mem_cons.mpr ⟨k_133, List.forall_mem_cons.mpr ⟨k_134, fun _ h => absurd h List.not_mem_nil⟩⟩⟩⟩⟩⟩⟩⟩⟩
theorem in_TM : ∀ w ∈ u_ws "TaleMachine" F_TM 4, w ∈ AW := by
  show ∀ w ∈ ([.laysFinal "TaleMachine" "TaleMachine" "script" "LTaleMachine$Script;", .laysFinal "TaleMachine" "TaleMachine" "world" "LTaleMachine$World;", .laysFinal "TaleMachine" "TaleMachine" "history" "LTaleMachine$History;", .laysFinal "TaleMachine" "TaleMachine" "teller" "LTaleMachine$Teller;"] : List Cond), w ∈ AW
  exact List.forall_mem_cons.mpr ⟨k_135, List.forall_mem_cons.mpr ⟨k_136, List.forall_mem_cons.mpr ⟨k_137, List.forall_mem_cons.mpr ⟨k_138, fun _ h => absurd h List.not_mem_nil⟩⟩⟩⟩
theorem in_Model : ∀ w ∈ u_ws "TaleMachineModel" F_Model 31, w ∈ AW := by
  show ∀ w ∈ ([.lays "TaleMachineModel" "TaleMachineModel" "code" "I", .laysFinal "TaleMachineModel" "TaleMachineModel" "bytes" "[I", .lays "TaleMachineModel" "TaleMachineModel" "size" "I", .laysFinal "TaleMachineModel" "TaleMachineModel" "w" "[I", .lays "TaleMachineModel" "TaleMachineModel" "fixed" "I", .lays "TaleMachineModel" "TaleMachineModel" "points" "I", .laysFinal "TaleMachineModel" "TaleMachineModel" "saved" "[Z", .lays "TaleMachineModel" "TaleMachineModel" "length" "I", .laysFinal "TaleMachineModel" "TaleMachineModel" "line" "[I", .laysFinal "TaleMachineModel" "TaleMachineModel" "met" "[Z", .laysFinal "TaleMachineModel" "TaleMachineModel" "waiting" "[I", .laysFinal "TaleMachineModel" "TaleMachineModel" "nextParent" "[I", .lays "TaleMachineModel" "TaleMachineModel" "height" "I", .laysFinal "TaleMachineModel" "TaleMachineModel" "kind" "[I", .laysFinal "TaleMachineModel" "TaleMachineModel" "number" "[I", .lays "TaleMachineModel" "TaleMachineModel" "depth" "I", .laysFinal "TaleMachineModel" "TaleMachineModel" "begin" "[I", .laysFinal "TaleMachineModel" "TaleMachineModel" "table" "[I", .laysFinal "TaleMachineModel" "TaleMachineModel" "handlers" "[I", .laysFinal "TaleMachineModel" "TaleMachineModel" "base" "[I", .laysFinal "TaleMachineModel" "TaleMachineModel" "locals" "[I", .laysFinal "TaleMachineModel" "TaleMachineModel" "self" "[I", .laysFinal "TaleMachineModel" "TaleMachineModel" "found" "[I", .laysFinal "TaleMachineModel" "TaleMachineModel" "place" "[I", .laysFinal "TaleMachineModel" "TaleMachineModel" "next" "[I", .lays "TaleMachineModel" "TaleMachineModel" "said" "I", .laysFinal "TaleMachineModel" "TaleMachineModel" "saidKind" "[I", .laysFinal "TaleMachineModel" "TaleMachineModel" "saidNumber" "[I", .lays "TaleMachineModel" "TaleMachineModel" "resultKind" "I", .lays "TaleMachineModel" "TaleMachineModel" "resultNumber" "I", .lays "TaleMachineModel" "TaleMachineModel" "ended" "I"] : List Cond), w ∈ AW
  exact List.forall_mem_cons.mpr ⟨k_139, List.forall_mem_cons.mpr ⟨k_140, List.forall_mem_cons.mpr ⟨k_141, List.forall_mem_cons.mpr ⟨k_142, List.forall_mem_cons.mpr ⟨k_143, List.forall_mem_cons.mpr ⟨k_144, List.forall_mem_cons.mpr ⟨k_145, List.forall_mem_cons.mpr ⟨k_146, List.forall_mem_cons.mpr ⟨k_147, List.forall_mem_cons.mpr ⟨k_148, List.forall_mem_cons.mpr ⟨k_149, List.forall_mem_cons.mpr ⟨k_150, List.forall_mem_cons.mpr ⟨k_151, List.forall_mem_cons.mpr ⟨k_152, List.forall_mem_cons.mpr ⟨k_153, List.forall_mem_cons.mpr ⟨k_154, List.forall_mem_cons.mpr ⟨k_155, List.forall_mem_cons.mpr ⟨k_156, List.forall_mem_cons.mpr ⟨k_157, List.forall_mem_cons.mpr ⟨k_158, List.forall_mem_cons.mpr ⟨k_159, List.forall_mem_cons.mpr ⟨k_160, List.forall_mem_cons.mpr ⟨k_161, List.forall_mem_cons.mpr ⟨k_162, List.forall_mem_cons.mpr ⟨k_163, List.forall_mem_cons.mpr ⟨k_164, List.forall_mem_cons.mpr ⟨k_165, List.forall_mem_cons.mpr ⟨k_166, List.forall_mem_cons.mpr ⟨k_167, List.forall_mem_cons.mpr ⟨k_168, List.forall_mem_cons.mpr ⟨k_169, fun _ h => absurd h List.not_mem_nil⟩⟩⟩⟩⟩⟩⟩⟩⟩⟩⟩⟩⟩⟩⟩⟩⟩⟩⟩⟩⟩⟩⟩⟩⟩⟩⟩⟩⟩⟩⟩
set_option maxRecDepth 100000 in
set_option maxHeartbeats 4000000 in
theorem AW_tbl {args : Array Value} {s : State} (hts : ∀ w ∈ lw_tbl, w.before args s = true) : ∀ w ∈ AW, w.before args s = true := by
  have h0 : ∀ w ∈ AW_0, w.before args s = true := by
    refine List.forall_mem_cons.mpr ⟨hts _ (List.mem_append_right _ (List.mem_of_getElem? (i := 755) rfl)), List.forall_mem_cons.mpr ⟨hts _ (List.mem_append_right _ (List.mem_of_getElem? (i := 859) rfl)), List.forall_mem_cons.mpr ⟨hts _ (List.mem_append_right _ (List.mem_of_getElem? (i := 857) rfl)), List.forall_mem_cons.mpr ⟨hts _ (List.mem_append_right _ (List.mem_of_getElem? (i := 858) rfl)), List.forall_mem_cons.mpr ⟨hts _ (List.mem_append_right _ (List.mem_of_getElem? (i := 10) rfl)), List.forall_mem_cons.mpr ⟨hts _ (List.mem_append_right _ (List.mem_of_getElem? (i := 758) rfl)), List.forall_mem_cons.mpr ⟨hts _ (List.mem_append_right _ (List.mem_of_getElem? (i := 871) rfl)), List.forall_mem_cons.mpr ⟨hts _ (List.mem_append_right _ (List.mem_of_getElem? (i := 868) rfl)), List.forall_mem_cons.mpr ⟨hts _ (List.mem_append_right _ (List.mem_of_getElem? (i := 870) rfl)), List.forall_mem_cons.mpr ⟨hts _ (List.mem_append_left _ (List.mem_of_getElem? (i := 37) rfl)), List.forall_mem_cons.mpr ⟨hts _ (List.mem_append_right _ (List.mem_of_getElem? (i := 879) rfl)), List.forall_mem_cons.mpr ⟨hts _ (List.mem_append_right _ (List.mem_of_getElem? (i := 876) rfl)), List.forall_mem_cons.mpr ⟨hts _ (List.mem_append_right _ (List.mem_of_getElem? (i := 878) rfl)), List.forall_mem_cons.mpr ⟨hts _ (List.mem_append_left _ (List.mem_of_getElem? (i := 39) rfl)), List.forall_mem_cons.mpr ⟨hts _ (List.mem_append_right _ (List.mem_of_getElem? (i := 757) rfl)), List.forall_mem_cons.mpr ⟨hts _ (List.mem_append_right _ (List.mem_of_getElem? (i := 756) rfl)), List.forall_mem_cons.mpr ⟨hts _ (List.mem_append_right _ (List.mem_of_getElem? (i := 867) rfl)), List.forall_mem_cons.mpr ⟨hts _ (List.mem_append_right _ (List.mem_of_getElem? (i := 864) rfl)), List.forall_mem_cons.mpr ⟨hts _ (List.mem_append_right _ (List.mem_of_getElem? (i := 866) rfl)), List.forall_mem_cons.mpr ⟨hts _ (List.mem_append_left _ (List.mem_of_getElem? (i := 36) rfl)), List.forall_mem_cons.mpr ⟨hts _ (List.mem_append_right _ (List.mem_of_getElem? (i := 785) rfl)), List.forall_mem_cons.mpr ⟨hts _ (List.mem_append_right _ (List.mem_of_getElem? (i := 759) rfl)), List.forall_mem_cons.mpr ⟨hts _ (List.mem_append_right _ (List.mem_of_getElem? (i := 875) rfl)), List.forall_mem_cons.mpr ⟨hts _ (List.mem_append_right _ (List.mem_of_getElem? (i := 872) rfl)), List.forall_mem_cons.mpr ⟨hts _ (List.mem_append_right _ (List.mem_of_getElem? (i := 874) rfl)), List.forall_mem_cons.mpr ⟨hts _ (List.mem_append_left _ (List.mem_of_getElem? (i := 38) rfl)), List.forall_mem_cons.mpr ⟨hts _ (List.mem_append_right _ (List.mem_of_getElem? (i := 761) rfl)), List.forall_mem_cons.mpr ⟨hts _ (List.mem_append_right _ (List.mem_of_getElem? (i := 783) rfl)), List.forall_mem_cons.mpr ⟨hts _ (List.mem_append_right _ (List.mem_of_getElem? (i := 784) rfl)), List.forall_mem_cons.mpr ⟨hts _ (List.mem_append_right _ (List.mem_of_getElem? (i := 1034) rfl)), List.forall_mem_cons.mpr ⟨hts _ (List.mem_append_right _ (List.mem_of_getElem? (i := 1031) rfl)), List.forall_mem_cons.mpr ⟨hts _ (List.mem_append_right _ (List.mem_of_getElem? (i := 1033) rfl)), List.forall_mem_cons.mpr ⟨hts _ (List.mem_append_left _ (List.mem_of_getElem? (i := 72) rfl)), List.forall_mem_cons.mpr ⟨hts _ (List.mem_append_right _ (List.mem_of_getElem? (i := 767) rfl)), List.forall_mem_cons.mpr ⟨hts _ (List.mem_append_right _ (List.mem_of_getElem? (i := 770) rfl)), List.forall_mem_cons.mpr ⟨hts _ (List.mem_append_right _ (List.mem_of_getElem? (i := 1046) rfl)), List.forall_mem_cons.mpr ⟨hts _ (List.mem_append_right _ (List.mem_of_getElem? (i := 1043) rfl)), List.forall_mem_cons.mpr ⟨hts _ (List.mem_append_right _ (List.mem_of_getElem? (i := 1045) rfl)), List.forall_mem_cons.mpr ⟨hts _ (List.mem_append_left _ (List.mem_of_getElem? (i := 74) rfl)), List.forall_mem_cons.mpr ⟨hts _ (List.mem_append_right _ (List.mem_of_getElem? (i := 780) rfl)), List.forall_mem_cons.mpr ⟨hts _ (List.mem_append_right _ (List.mem_of_getElem? (i := 760) rfl)), List.forall_mem_cons.mpr ⟨hts _ (List.mem_append_right _ (List.mem_of_getElem? (i := 32) rfl)), List.forall_mem_cons.mpr ⟨hts _ (List.mem_append_right _ (List.mem_of_getElem? (i := 25) rfl)), List.forall_mem_cons.mpr ⟨hts _ (List.mem_append_right _ (List.mem_of_getElem? (i := 26) rfl)), List.forall_mem_cons.mpr ⟨hts _ (List.mem_append_right _ (List.mem_of_getElem? (i := 40) rfl)), List.forall_mem_cons.mpr ⟨hts _ (List.mem_append_right _ (List.mem_of_getElem? (i := 33) rfl)), List.forall_mem_cons.mpr ⟨hts _ (List.mem_append_right _ (List.mem_of_getElem? (i := 157) rfl)), List.forall_mem_cons.mpr ⟨hts _ (List.mem_append_right _ (List.mem_of_getElem? (i := 136) rfl)), List.forall_mem_cons.mpr ⟨hts _ (List.mem_append_right _ (List.mem_of_getElem? (i := 137) rfl)), List.forall_mem_cons.mpr ⟨hts _ (List.mem_append_right _ (List.mem_of_getElem? (i := 140) rfl)), List.forall_mem_cons.mpr ⟨hts _ (List.mem_append_right _ (List.mem_of_getElem? (i := 52) rfl)), List.forall_mem_cons.mpr ⟨hts _ (List.mem_append_right _ (List.mem_of_getElem? (i := 56) rfl)), List.forall_mem_cons.mpr ⟨hts _ (List.mem_append_right _ (List.mem_of_getElem? (i := 58) rfl)), List.forall_mem_cons.mpr ⟨hts _ (List.mem_append_right _ (List.mem_of_getElem? (i := 60) rfl)), List.forall_mem_cons.mpr ⟨hts _ (List.mem_append_right _ (List.mem_of_getElem? (i := 55) rfl)), List.forall_mem_cons.mpr ⟨hts _ (List.mem_append_right _ (List.mem_of_getElem? (i := 53) rfl)), List.forall_mem_cons.mpr ⟨hts _ (List.mem_append_right _ (List.mem_of_getElem? (i := 54) rfl)), List.forall_mem_cons.mpr ⟨hts _ (List.mem_append_right _ (List.mem_of_getElem? (i := 5) rfl)), List.forall_mem_cons.mpr ⟨hts _ (List.mem_append_right _ (List.mem_of_getElem? (i := 46) rfl)), List.forall_mem_cons.mpr ⟨hts _ (List.mem_append_right _ (List.mem_of_getElem? (i := 47) rfl)), fun _ h => absurd h List.not_mem_nil⟩⟩⟩⟩⟩⟩⟩⟩⟩⟩⟩⟩⟩⟩⟩⟩⟩⟩⟩⟩⟩⟩⟩⟩⟩⟩⟩⟩⟩⟩⟩⟩⟩⟩⟩⟩⟩⟩⟩⟩⟩⟩⟩⟩⟩⟩⟩⟩⟩⟩⟩⟩⟩⟩⟩⟩⟩⟩⟩⟩
  have h1 : ∀ w ∈ AW_1, w.before args s = true := by
    refine List.forall_mem_cons.mpr ⟨hts _ (List.mem_append_right _ (List.mem_of_getElem? (i := 48) rfl)), List.forall_mem_cons.mpr ⟨hts _ (List.mem_append_right _ (List.mem_of_getElem? (i := 4) rfl)), List.forall_mem_cons.mpr ⟨hts _ (List.mem_append_right _ (List.mem_of_getElem? (i := 51) rfl)), List.forall_mem_cons.mpr ⟨hts _ (List.mem_append_right _ (List.mem_of_getElem? (i := 49) rfl)), List.forall_mem_cons.mpr ⟨hts _ (List.mem_append_right _ (List.mem_of_getElem? (i := 50) rfl)), List.forall_mem_cons.mpr ⟨hts _ (List.mem_append_right _ (List.mem_of_getElem? (i := 69) rfl)), List.forall_mem_cons.mpr ⟨hts _ (List.mem_append_right _ (List.mem_of_getElem? (i := 73) rfl)), List.forall_mem_cons.mpr ⟨hts _ (List.mem_append_right _ (List.mem_of_getElem? (i := 74) rfl)), List.forall_mem_cons.mpr ⟨hts _ (List.mem_append_right _ (List.mem_of_getElem? (i := 75) rfl)), List.forall_mem_cons.mpr ⟨hts _ (List.mem_append_right _ (List.mem_of_getElem? (i := 77) rfl)), List.forall_mem_cons.mpr ⟨hts _ (List.mem_append_right _ (List.mem_of_getElem? (i := 104) rfl)), List.forall_mem_cons.mpr ⟨hts _ (List.mem_append_right _ (List.mem_of_getElem? (i := 105) rfl)), List.forall_mem_cons.mpr ⟨hts _ (List.mem_append_right _ (List.mem_of_getElem? (i := 108) rfl)), List.forall_mem_cons.mpr ⟨hts _ (List.mem_append_right _ (List.mem_of_getElem? (i := 109) rfl)), List.forall_mem_cons.mpr ⟨hts _ (List.mem_append_right _ (List.mem_of_getElem? (i := 122) rfl)), List.forall_mem_cons.mpr ⟨hts _ (List.mem_append_right _ (List.mem_of_getElem? (i := 110) rfl)), List.forall_mem_cons.mpr ⟨hts _ (List.mem_append_right _ (List.mem_of_getElem? (i := 107) rfl)), List.forall_mem_cons.mpr ⟨hts _ (List.mem_append_right _ (List.mem_of_getElem? (i := 128) rfl)), List.forall_mem_cons.mpr ⟨hts _ (List.mem_append_right _ (List.mem_of_getElem? (i := 129) rfl)), List.forall_mem_cons.mpr ⟨hts _ (List.mem_append_right _ (List.mem_of_getElem? (i := 188) rfl)), List.forall_mem_cons.mpr ⟨hts _ (List.mem_append_right _ (List.mem_of_getElem? (i := 131) rfl)), List.forall_mem_cons.mpr ⟨hts _ (List.mem_append_right _ (List.mem_of_getElem? (i := 132) rfl)), List.forall_mem_cons.mpr ⟨hts _ (List.mem_append_right _ (List.mem_of_getElem? (i := 8) rfl)), List.forall_mem_cons.mpr ⟨hts _ (List.mem_append_right _ (List.mem_of_getElem? (i := 135) rfl)), List.forall_mem_cons.mpr ⟨hts _ (List.mem_append_right _ (List.mem_of_getElem? (i := 133) rfl)), List.forall_mem_cons.mpr ⟨hts _ (List.mem_append_right _ (List.mem_of_getElem? (i := 134) rfl)), List.forall_mem_cons.mpr ⟨hts _ (List.mem_append_right _ (List.mem_of_getElem? (i := 189) rfl)), List.forall_mem_cons.mpr ⟨hts _ (List.mem_append_right _ (List.mem_of_getElem? (i := 191) rfl)), List.forall_mem_cons.mpr ⟨hts _ (List.mem_append_right _ (List.mem_of_getElem? (i := 193) rfl)), List.forall_mem_cons.mpr ⟨hts _ (List.mem_append_right _ (List.mem_of_getElem? (i := 197) rfl)), List.forall_mem_cons.mpr ⟨hts _ (List.mem_append_right _ (List.mem_of_getElem? (i := 185) rfl)), List.forall_mem_cons.mpr ⟨hts _ (List.mem_append_right _ (List.mem_of_getElem? (i := 186) rfl)), List.forall_mem_cons.mpr ⟨hts _ (List.mem_append_right _ (List.mem_of_getElem? (i := 187) rfl)), List.forall_mem_cons.mpr ⟨hts _ (List.mem_append_right _ (List.mem_of_getElem? (i := 153) rfl)), List.forall_mem_cons.mpr ⟨hts _ (List.mem_append_right _ (List.mem_of_getElem? (i := 9) rfl)), List.forall_mem_cons.mpr ⟨hts _ (List.mem_append_right _ (List.mem_of_getElem? (i := 156) rfl)), List.forall_mem_cons.mpr ⟨hts _ (List.mem_append_right _ (List.mem_of_getElem? (i := 155) rfl)), List.forall_mem_cons.mpr ⟨hts _ (List.mem_append_right _ (List.mem_of_getElem? (i := 168) rfl)), List.forall_mem_cons.mpr ⟨hts _ (List.mem_append_right _ (List.mem_of_getElem? (i := 170) rfl)), List.forall_mem_cons.mpr ⟨hts _ (List.mem_append_right _ (List.mem_of_getElem? (i := 172) rfl)), List.forall_mem_cons.mpr ⟨hts _ (List.mem_append_right _ (List.mem_of_getElem? (i := 174) rfl)), List.forall_mem_cons.mpr ⟨hts _ (List.mem_append_right _ (List.mem_of_getElem? (i := 176) rfl)), List.forall_mem_cons.mpr ⟨hts _ (List.mem_append_right _ (List.mem_of_getElem? (i := 178) rfl)), List.forall_mem_cons.mpr ⟨hts _ (List.mem_append_right _ (List.mem_of_getElem? (i := 180) rfl)), List.forall_mem_cons.mpr ⟨hts _ (List.mem_append_right _ (List.mem_of_getElem? (i := 182) rfl)), List.forall_mem_cons.mpr ⟨hts _ (List.mem_append_right _ (List.mem_of_getElem? (i := 113) rfl)), List.forall_mem_cons.mpr ⟨hts _ (List.mem_append_right _ (List.mem_of_getElem? (i := 115) rfl)), List.forall_mem_cons.mpr ⟨hts _ (List.mem_append_right _ (List.mem_of_getElem? (i := 117) rfl)), List.forall_mem_cons.mpr ⟨hts _ (List.mem_append_right _ (List.mem_of_getElem? (i := 119) rfl)), List.forall_mem_cons.mpr ⟨hts _ (List.mem_append_right _ (List.mem_of_getElem? (i := 35) rfl)), List.forall_mem_cons.mpr ⟨hts _ (List.mem_append_right _ (List.mem_of_getElem? (i := 37) rfl)), List.forall_mem_cons.mpr ⟨hts _ (List.mem_append_right _ (List.mem_of_getElem? (i := 62) rfl)), List.forall_mem_cons.mpr ⟨hts _ (List.mem_append_right _ (List.mem_of_getElem? (i := 64) rfl)), List.forall_mem_cons.mpr ⟨hts _ (List.mem_append_right _ (List.mem_of_getElem? (i := 66) rfl)), List.forall_mem_cons.mpr ⟨hts _ (List.mem_append_right _ (List.mem_of_getElem? (i := 199) rfl)), List.forall_mem_cons.mpr ⟨hts _ (List.mem_append_right _ (List.mem_of_getElem? (i := 201) rfl)), List.forall_mem_cons.mpr ⟨hts _ (List.mem_append_right _ (List.mem_of_getElem? (i := 203) rfl)), List.forall_mem_cons.mpr ⟨hts _ (List.mem_append_right _ (List.mem_of_getElem? (i := 205) rfl)), List.forall_mem_cons.mpr ⟨hts _ (List.mem_append_right _ (List.mem_of_getElem? (i := 207) rfl)), List.forall_mem_cons.mpr ⟨hts _ (List.mem_append_right _ (List.mem_of_getElem? (i := 209) rfl)), fun _ h => absurd h List.not_mem_nil⟩⟩⟩⟩⟩⟩⟩⟩⟩⟩⟩⟩⟩⟩⟩⟩⟩⟩⟩⟩⟩⟩⟩⟩⟩⟩⟩⟩⟩⟩⟩⟩⟩⟩⟩⟩⟩⟩⟩⟩⟩⟩⟩⟩⟩⟩⟩⟩⟩⟩⟩⟩⟩⟩⟩⟩⟩⟩⟩⟩
  have h2 : ∀ w ∈ AW_2, w.before args s = true := by
    refine List.forall_mem_cons.mpr ⟨hts _ (List.mem_append_right _ (List.mem_of_getElem? (i := 211) rfl)), List.forall_mem_cons.mpr ⟨hts _ (List.mem_append_right _ (List.mem_of_getElem? (i := 213) rfl)), List.forall_mem_cons.mpr ⟨hts _ (List.mem_append_right _ (List.mem_of_getElem? (i := 215) rfl)), List.forall_mem_cons.mpr ⟨hts _ (List.mem_append_right _ (List.mem_of_getElem? (i := 146) rfl)), List.forall_mem_cons.mpr ⟨hts _ (List.mem_append_right _ (List.mem_of_getElem? (i := 148) rfl)), List.forall_mem_cons.mpr ⟨hts _ (List.mem_append_right _ (List.mem_of_getElem? (i := 150) rfl)), List.forall_mem_cons.mpr ⟨hts _ (List.mem_append_right _ (List.mem_of_getElem? (i := 80) rfl)), List.forall_mem_cons.mpr ⟨hts _ (List.mem_append_right _ (List.mem_of_getElem? (i := 82) rfl)), List.forall_mem_cons.mpr ⟨hts _ (List.mem_append_right _ (List.mem_of_getElem? (i := 84) rfl)), List.forall_mem_cons.mpr ⟨hts _ (List.mem_append_right _ (List.mem_of_getElem? (i := 86) rfl)), List.forall_mem_cons.mpr ⟨hts _ (List.mem_append_right _ (List.mem_of_getElem? (i := 88) rfl)), List.forall_mem_cons.mpr ⟨hts _ (List.mem_append_right _ (List.mem_of_getElem? (i := 90) rfl)), List.forall_mem_cons.mpr ⟨hts _ (List.mem_append_right _ (List.mem_of_getElem? (i := 92) rfl)), List.forall_mem_cons.mpr ⟨hts _ (List.mem_append_right _ (List.mem_of_getElem? (i := 94) rfl)), List.forall_mem_cons.mpr ⟨hts _ (List.mem_append_right _ (List.mem_of_getElem? (i := 96) rfl)), List.forall_mem_cons.mpr ⟨hts _ (List.mem_append_right _ (List.mem_of_getElem? (i := 222) rfl)), List.forall_mem_cons.mpr ⟨hts _ (List.mem_append_right _ (List.mem_of_getElem? (i := 224) rfl)), List.forall_mem_cons.mpr ⟨hts _ (List.mem_append_right _ (List.mem_of_getElem? (i := 226) rfl)), List.forall_mem_cons.mpr ⟨hts _ (List.mem_append_right _ (List.mem_of_getElem? (i := 228) rfl)), List.forall_mem_cons.mpr ⟨hts _ (List.mem_append_right _ (List.mem_of_getElem? (i := 786) rfl)), List.forall_mem_cons.mpr ⟨hts _ (List.mem_append_right _ (List.mem_of_getElem? (i := 788) rfl)), List.forall_mem_cons.mpr ⟨hts _ (List.mem_append_right _ (List.mem_of_getElem? (i := 790) rfl)), List.forall_mem_cons.mpr ⟨hts _ (List.mem_append_right _ (List.mem_of_getElem? (i := 792) rfl)), List.forall_mem_cons.mpr ⟨hts _ (List.mem_append_right _ (List.mem_of_getElem? (i := 794) rfl)), List.forall_mem_cons.mpr ⟨hts _ (List.mem_append_right _ (List.mem_of_getElem? (i := 796) rfl)), List.forall_mem_cons.mpr ⟨hts _ (List.mem_append_right _ (List.mem_of_getElem? (i := 798) rfl)), List.forall_mem_cons.mpr ⟨hts _ (List.mem_append_right _ (List.mem_of_getElem? (i := 800) rfl)), List.forall_mem_cons.mpr ⟨hts _ (List.mem_append_right _ (List.mem_of_getElem? (i := 802) rfl)), List.forall_mem_cons.mpr ⟨hts _ (List.mem_append_right _ (List.mem_of_getElem? (i := 804) rfl)), List.forall_mem_cons.mpr ⟨hts _ (List.mem_append_right _ (List.mem_of_getElem? (i := 806) rfl)), List.forall_mem_cons.mpr ⟨hts _ (List.mem_append_right _ (List.mem_of_getElem? (i := 808) rfl)), List.forall_mem_cons.mpr ⟨hts _ (List.mem_append_right _ (List.mem_of_getElem? (i := 810) rfl)), List.forall_mem_cons.mpr ⟨hts _ (List.mem_append_right _ (List.mem_of_getElem? (i := 812) rfl)), List.forall_mem_cons.mpr ⟨hts _ (List.mem_append_right _ (List.mem_of_getElem? (i := 814) rfl)), List.forall_mem_cons.mpr ⟨hts _ (List.mem_append_right _ (List.mem_of_getElem? (i := 816) rfl)), List.forall_mem_cons.mpr ⟨hts _ (List.mem_append_right _ (List.mem_of_getElem? (i := 818) rfl)), List.forall_mem_cons.mpr ⟨hts _ (List.mem_append_right _ (List.mem_of_getElem? (i := 820) rfl)), List.forall_mem_cons.mpr ⟨hts _ (List.mem_append_right _ (List.mem_of_getElem? (i := 822) rfl)), List.forall_mem_cons.mpr ⟨hts _ (List.mem_append_right _ (List.mem_of_getElem? (i := 824) rfl)), List.forall_mem_cons.mpr ⟨hts _ (List.mem_append_right _ (List.mem_of_getElem? (i := 826) rfl)), List.forall_mem_cons.mpr ⟨hts _ (List.mem_append_right _ (List.mem_of_getElem? (i := 828) rfl)), List.forall_mem_cons.mpr ⟨hts _ (List.mem_append_right _ (List.mem_of_getElem? (i := 830) rfl)), List.forall_mem_cons.mpr ⟨hts _ (List.mem_append_right _ (List.mem_of_getElem? (i := 832) rfl)), List.forall_mem_cons.mpr ⟨hts _ (List.mem_append_right _ (List.mem_of_getElem? (i := 834) rfl)), List.forall_mem_cons.mpr ⟨hts _ (List.mem_append_right _ (List.mem_of_getElem? (i := 836) rfl)), List.forall_mem_cons.mpr ⟨hts _ (List.mem_append_right _ (List.mem_of_getElem? (i := 838) rfl)), List.forall_mem_cons.mpr ⟨hts _ (List.mem_append_right _ (List.mem_of_getElem? (i := 840) rfl)), List.forall_mem_cons.mpr ⟨hts _ (List.mem_append_right _ (List.mem_of_getElem? (i := 842) rfl)), List.forall_mem_cons.mpr ⟨hts _ (List.mem_append_right _ (List.mem_of_getElem? (i := 844) rfl)), List.forall_mem_cons.mpr ⟨hts _ (List.mem_append_right _ (List.mem_of_getElem? (i := 846) rfl)), fun _ h => absurd h List.not_mem_nil⟩⟩⟩⟩⟩⟩⟩⟩⟩⟩⟩⟩⟩⟩⟩⟩⟩⟩⟩⟩⟩⟩⟩⟩⟩⟩⟩⟩⟩⟩⟩⟩⟩⟩⟩⟩⟩⟩⟩⟩⟩⟩⟩⟩⟩⟩⟩⟩⟩⟩
  exact List.forall_mem_append.mpr ⟨h0, List.forall_mem_append.mpr ⟨h1, h2⟩⟩
