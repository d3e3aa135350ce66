def AW_0 : List Cond := [.fieldLink "TaleMachineModel" 75 "TaleMachineModel" "code" "I",
  .code y_Model_outside prog_10_method_4_code 3 (some .boolean),
  .methodLink "TaleMachineModel" 78 y_Model_outside,
  .static y_Model_outside,
  .initialized "TaleMachineModel",
  .fieldLink "TaleMachineModel" 13 "TaleMachineModel" "w" "[I",
  .code y_Model_isThere prog_10_method_5_code 2 (some .boolean),
  .methodLink "TaleMachineModel" 107 y_Model_isThere,
  .instanceMethod y_Model_isThere,
  .selects "TaleMachineModel" y_Model_isThere y_Model_isThere,
  .code y_Model_placeOf prog_10_method_8_code 3 (some .int),
  .methodLink "TaleMachineModel" 82 y_Model_placeOf,
  .instanceMethod y_Model_placeOf,
  .selects "TaleMachineModel" y_Model_placeOf y_Model_placeOf,
  .fieldLink "TaleMachineModel" 104 "TaleMachineModel" "size" "I",
  .fieldLink "TaleMachineModel" 7 "TaleMachineModel" "bytes" "[I",
  .code y_Model_isParent prog_10_method_17_code 2 (some .boolean),
  .methodLink "TaleMachineModel" 111 y_Model_isParent,
  .instanceMethod y_Model_isParent,
  .selects "TaleMachineModel" y_Model_isParent y_Model_isParent,
  .fieldLink "TaleMachineModel" 71 "TaleMachineModel" "ended" "I",
  .fieldLink "TaleMachineModel" 114 "TaleMachineModel" "fixed" "I",
  .code y_Model_empty prog_10_method_11_code 3 none,
  .methodLink "TaleMachineModel" 117 y_Model_empty,
  .instanceMethod y_Model_empty,
  .selects "TaleMachineModel" y_Model_empty y_Model_empty,
  .fieldLink "TaleMachineModel" 16 "TaleMachineModel" "saved" "[Z",
  .fieldLink "TaleMachineModel" 147 "TaleMachineModel" "resultKind" "I",
  .fieldLink "TaleMachineModel" 150 "TaleMachineModel" "resultNumber" "I",
  .code y_Model_mark prog_10_method_48_code 4 (some .int),
  .methodLink "TaleMachineModel" 232 y_Model_mark,
  .instanceMethod y_Model_mark,
  .selects "TaleMachineModel" y_Model_mark y_Model_mark,
  .fieldLink "TaleMachineModel" 130 "TaleMachineModel" "height" "I",
  .fieldLink "TaleMachineModel" 127 "TaleMachineModel" "depth" "I",
  .code y_Model_refuse prog_10_method_3_code 2 (some .int),
  .methodLink "TaleMachineModel" 238 y_Model_refuse,
  .instanceMethod y_Model_refuse,
  .selects "TaleMachineModel" y_Model_refuse y_Model_refuse,
  .fieldLink "TaleMachineModel" 144 "TaleMachineModel" "said" "I",
  .fieldLink "TaleMachineModel" 153 "TaleMachineModel" "points" "I",
  .methodLink "TaleMachine$Script" 3 objectInit,
  .instanceMethod objectInit,
  .code objectInit object_method_1_code 1 none,
  .arrayClass .int,
  .fieldLink "TaleMachine$Script" 9 "TaleMachine$Script" "bytes" "[I",
  .methodLink "TaleMachine$Frame" 1 objectInit,
  .methodLink "TaleMachine$Values" 1 objectInit,
  .fieldLink "TaleMachine$Values" 7 "TaleMachine$Values" "kinds" "[I",
  .fieldLink "TaleMachine$Values" 13 "TaleMachine$Values" "ints" "[I",
  .methodLink "TaleMachine$State" 3 objectInit,
  .fieldLink "TaleMachine$State" 9 "TaleMachine$State" "kinds" "[I",
  .fieldLink "TaleMachine$State" 15 "TaleMachine$State" "ints" "[I",
  .fieldLink "TaleMachine$State" 18 "TaleMachine$State" "parents" "[I",
  .code y_Arrays_fill prog_19_method_103_code 4 none,
  .methodLink "TaleMachine$State" 21 y_Arrays_fill,
  .static y_Arrays_fill,
  .initialized "java/util/Arrays",
  .methodLink "TaleMachine$World" 3 objectInit,
  .classLink "TaleMachine$World" 9 "TaleMachine$State"]
def AW_1 : List Cond := [.instantiable "TaleMachine$State" 3,
  .initialized "TaleMachine$State",
  .code y_State_init prog_5_method_1_code 1 none,
  .methodLink "TaleMachine$World" 11 y_State_init,
  .instanceMethod y_State_init,
  .fieldLink "TaleMachine$World" 12 "TaleMachine$World" "now" "LTaleMachine$State;",
  .fieldLink "TaleMachine$World" 18 "TaleMachine$World" "fixedLines" "[I",
  .fieldLink "TaleMachine$World" 22 "TaleMachine$World" "fixedLengths" "[I",
  .fieldLink "TaleMachine$World" 25 "TaleMachine$World" "line" "[I",
  .fieldLink "TaleMachine$World" 28 "TaleMachine$World" "reached" "[I",
  .methodLink "TaleMachine$History" 3 objectInit,
  .classLink "TaleMachine$History" 9 "TaleMachine$State",
  .fieldLink "TaleMachine$History" 11 "TaleMachine$History" "pointed" "[LTaleMachine$State;",
  .fieldLink "TaleMachine$History" 17 "TaleMachine$History" "saved" "[LTaleMachine$State;",
  .arrayClass .boolean,
  .fieldLink "TaleMachine$History" 20 "TaleMachine$History" "isSaved" "[Z",
  .methodLink "TaleMachine$History" 24 y_State_init,
  .methodLink "TaleMachine$Teller" 3 objectInit,
  .classLink "TaleMachine$Teller" 9 "TaleMachine$Frame",
  .fieldLink "TaleMachine$Teller" 11 "TaleMachine$Teller" "frames" "[LTaleMachine$Frame;",
  .classLink "TaleMachine$Teller" 17 "TaleMachine$Values",
  .instantiable "TaleMachine$Values" 3,
  .initialized "TaleMachine$Values",
  .code y_Values_init prog_7_method_1_code 2 none,
  .methodLink "TaleMachine$Teller" 19 y_Values_init,
  .instanceMethod y_Values_init,
  .fieldLink "TaleMachine$Teller" 22 "TaleMachine$Teller" "values" "LTaleMachine$Values;",
  .fieldLink "TaleMachine$Teller" 26 "TaleMachine$Teller" "sayings" "LTaleMachine$Values;",
  .fieldLink "TaleMachine$Teller" 29 "TaleMachine$Teller" "result" "LTaleMachine$Values;",
  .fieldLink "TaleMachine$Teller" 32 "TaleMachine$Teller" "outcome" "I",
  .fieldLink "TaleMachine$Teller" 36 "TaleMachine$Teller" "script" "LTaleMachine$Script;",
  .fieldLink "TaleMachine$Teller" 40 "TaleMachine$Teller" "world" "LTaleMachine$World;",
  .fieldLink "TaleMachine$Teller" 44 "TaleMachine$Teller" "history" "LTaleMachine$History;",
  .instantiable "TaleMachine$Frame" 8,
  .initialized "TaleMachine$Frame",
  .code y_Frame_init prog_2_method_1_code 1 none,
  .instanceMethod y_Frame_init,
  .methodLink "TaleMachine" 3 objectInit,
  .classLink "TaleMachine" 9 "TaleMachine$Script",
  .instantiable "TaleMachine$Script" 2,
  .initialized "TaleMachine$Script",
  .code y_Script_init prog_4_method_1_code 1 none,
  .instanceMethod y_Script_init,
  .fieldLink "TaleMachine" 12 "TaleMachine" "script" "LTaleMachine$Script;",
  .classLink "TaleMachine" 16 "TaleMachine$World",
  .instantiable "TaleMachine$World" 9,
  .initialized "TaleMachine$World",
  .code y_World_init prog_8_method_1_code 1 none,
  .instanceMethod y_World_init,
  .fieldLink "TaleMachine" 19 "TaleMachine" "world" "LTaleMachine$World;",
  .classLink "TaleMachine" 23 "TaleMachine$History",
  .instantiable "TaleMachine$History" 4,
  .initialized "TaleMachine$History",
  .code y_History_init prog_3_method_1_code 2 none,
  .methodLink "TaleMachine" 25 y_History_init,
  .instanceMethod y_History_init,
  .fieldLink "TaleMachine" 26 "TaleMachine" "history" "LTaleMachine$History;",
  .classLink "TaleMachine" 30 "TaleMachine$Teller",
  .instantiable "TaleMachine$Teller" 9,
  .initialized "TaleMachine$Teller"]
def AW_2 : List Cond := [.code y_Teller_init prog_6_method_1_code 5 none,
  .methodLink "TaleMachine" 32 y_Teller_init,
  .instanceMethod y_Teller_init,
  .fieldLink "TaleMachine" 35 "TaleMachine" "teller" "LTaleMachine$Teller;",
  .fieldLink "TaleMachine$Script" 15 "TaleMachine$Script" "length" "I",
  .code y_Script_append prog_4_method_2_code 4 (some .boolean),
  .methodLink "TaleMachine" 39 y_Script_append,
  .instanceMethod y_Script_append,
  .selects "TaleMachine$Script" y_Script_append y_Script_append,
  .fieldLink "TaleMachine$World" 31 "TaleMachine$World" "fixed" "I",
  .code y_World_isFixed prog_8_method_2_code 2 (some .boolean),
  .methodLink "TaleMachine$World" 35 y_World_isFixed,
  .instanceMethod y_World_isFixed,
  .selects "TaleMachine$World" y_World_isFixed y_World_isFixed,
  .fieldLink "TaleMachine$World" 39 "TaleMachine$State" "parents" "[I",
  .fieldLink "TaleMachine$World" 85 "TaleMachine$World" "reachedCount" "I",
  .fieldLink "TaleMachine$World" 88 "TaleMachine$World" "reachedBits" "I",
  .code y_World_isThere prog_8_method_3_code 2 (some .boolean),
  .methodLink "TaleMachine$World" 82 y_World_isThere,
  .instanceMethod y_World_isThere,
  .selects "TaleMachine$World" y_World_isThere y_World_isThere,
  .fieldLink "TaleMachine$Teller" 52 "TaleMachine$Values" "count" "I",
  .fieldLink "TaleMachine$Teller" 49 "TaleMachine$Teller" "depth" "I",
  .code y_World_forgetReached prog_8_method_18_code 1 none,
  .methodLink "TaleMachine" 124 y_World_forgetReached,
  .instanceMethod y_World_forgetReached,
  .selects "TaleMachine$World" y_World_forgetReached y_World_forgetReached,
  .code y_Teller_reachRoots prog_6_method_6_code 2 none,
  .methodLink "TaleMachine" 127 y_Teller_reachRoots,
  .instanceMethod y_Teller_reachRoots,
  .selects "TaleMachine$Teller" y_Teller_reachRoots y_Teller_reachRoots,
  .code y_World_sweep prog_8_method_21_code 3 (some .int),
  .methodLink "TaleMachine" 130 y_World_sweep,
  .instanceMethod y_World_sweep,
  .selects "TaleMachine$World" y_World_sweep y_World_sweep,
  .code y_World_descends prog_8_method_17_code 3 (some .boolean),
  .methodLink "TaleMachine" 179 y_World_descends,
  .instanceMethod y_World_descends,
  .selects "TaleMachine$World" y_World_descends y_World_descends,
  .fieldLink "TaleMachine" 58 "TaleMachine$Teller" "outcome" "I",
  .methodLink "TaleMachine" 111 ⟨"java/lang/Math", "min", "(II)I"⟩,
  .static ⟨"java/lang/Math", "min", "(II)I"⟩,
  .initialized "java/lang/Math",
  .code ⟨"java/lang/Math", "min", "(II)I"⟩ prog_14_method_69_code 2 (some .int),
  .fieldLink "TaleMachine$World" 48 "TaleMachine$World" "length" "I",
  .fieldLink "TaleMachine" 54 "TaleMachine$World" "fixed" "I",
  .code y_History_dropSaved prog_3_method_8_code 2 none,
  .methodLink "TaleMachine" 66 y_History_dropSaved,
  .instanceMethod y_History_dropSaved,
  .selects "TaleMachine$History" y_History_dropSaved y_History_dropSaved,
  .code y_World_fix prog_8_method_8_code 8 (some .int),
  .methodLink "TaleMachine" 69 y_World_fix,
  .instanceMethod y_World_fix,
  .selects "TaleMachine$World" y_World_fix y_World_fix,
  .fieldLink "TaleMachine" 142 "TaleMachine$Teller" "depth" "I",
  .fieldLink "TaleMachine" 159 "TaleMachine$History" "points" "I",
  .code y_World_count prog_8_method_4_code 3 (some .int),
  .methodLink "TaleMachine" 162 y_World_count,
  .instanceMethod y_World_count,
  .selects "TaleMachine$World" y_World_count y_World_count]
def AW_3 : List Cond := [.fieldLink "TaleMachine" 165 "TaleMachine$Teller" "sayings" "LTaleMachine$Values;",
  .fieldLink "TaleMachine" 168 "TaleMachine$Values" "count" "I",
  .methodLink "TaleMachine" 43 y_World_isFixed,
  .classLink "TaleMachine" 47 "java/lang/IllegalArgumentException",
  .initialized "java/lang/IllegalArgumentException",
  .methodLink "TaleMachine" 73 y_World_isThere,
  .classLink "TaleMachine" 76 "java/util/NoSuchElementException",
  .initialized "java/util/NoSuchElementException",
  .fieldLink "TaleMachine" 134 "TaleMachine$Teller" "values" "LTaleMachine$Values;",
  .code y_TM_part prog_1_method_15_code 3 (some .int),
  .methodLink "TaleMachine" 138 y_TM_part,
  .static y_TM_part,
  .initialized "TaleMachine",
  .fieldLink "TaleMachine" 174 "TaleMachine$Teller" "result" "LTaleMachine$Values;",
  .methodLink "TaleMachineModel" 1 objectInit,
  .fieldLink "TaleMachineModel" 20 "TaleMachineModel" "line" "[I",
  .fieldLink "TaleMachineModel" 23 "TaleMachineModel" "met" "[Z",
  .fieldLink "TaleMachineModel" 26 "TaleMachineModel" "waiting" "[I",
  .fieldLink "TaleMachineModel" 29 "TaleMachineModel" "nextParent" "[I",
  .fieldLink "TaleMachineModel" 32 "TaleMachineModel" "kind" "[I",
  .fieldLink "TaleMachineModel" 35 "TaleMachineModel" "number" "[I",
  .fieldLink "TaleMachineModel" 38 "TaleMachineModel" "begin" "[I",
  .fieldLink "TaleMachineModel" 41 "TaleMachineModel" "table" "[I",
  .fieldLink "TaleMachineModel" 44 "TaleMachineModel" "handlers" "[I",
  .fieldLink "TaleMachineModel" 47 "TaleMachineModel" "base" "[I",
  .fieldLink "TaleMachineModel" 50 "TaleMachineModel" "locals" "[I",
  .fieldLink "TaleMachineModel" 53 "TaleMachineModel" "self" "[I",
  .fieldLink "TaleMachineModel" 56 "TaleMachineModel" "found" "[I",
  .fieldLink "TaleMachineModel" 59 "TaleMachineModel" "place" "[I",
  .fieldLink "TaleMachineModel" 62 "TaleMachineModel" "next" "[I",
  .fieldLink "TaleMachineModel" 65 "TaleMachineModel" "saidKind" "[I",
  .fieldLink "TaleMachineModel" 68 "TaleMachineModel" "saidNumber" "[I",
  .code y_TM_object prog_1_method_3_code 5 (some .int),
  .methodLink "TaleMachineLaw" 7 y_TM_object,
  .instanceMethod y_TM_object,
  .selects "TaleMachine" y_TM_object y_TM_object,
  .classLink "TaleMachineLaw" 13 "java/lang/IllegalArgumentException",
  .code y_TM_property prog_1_method_4_code 5 none,
  .methodLink "TaleMachineLaw" 17 y_TM_property,
  .instanceMethod y_TM_property,
  .selects "TaleMachine" y_TM_property y_TM_property,
  .classLink "TaleMachineLaw" 21 "java/util/NoSuchElementException",
  .code y_TM_begin prog_1_method_5_code 4 none,
  .methodLink "TaleMachineLaw" 23 y_TM_begin,
  .instanceMethod y_TM_begin,
  .selects "TaleMachine" y_TM_begin y_TM_begin,
  .code y_TM_stack prog_1_method_9_code 3 (some .int),
  .methodLink "TaleMachineLaw" 27 y_TM_stack,
  .instanceMethod y_TM_stack,
  .selects "TaleMachine" y_TM_stack y_TM_stack,
  .code y_TM_said prog_1_method_11_code 3 (some .int),
  .methodLink "TaleMachineLaw" 35 y_TM_said,
  .instanceMethod y_TM_said,
  .selects "TaleMachine" y_TM_said y_TM_said,
  .code y_TM_has prog_1_method_12_code 5 (some .int),
  .methodLink "TaleMachineLaw" 38 y_TM_has,
  .instanceMethod y_TM_has,
  .selects "TaleMachine" y_TM_has y_TM_has,
  .code y_TM_show prog_1_method_10_code 2 (some .int),
  .methodLink "TaleMachineLaw" 31 y_TM_show]
def AW_4 : List Cond := [.instanceMethod y_TM_show,
  .selects "TaleMachine" y_TM_show y_TM_show,
  .lays "TaleMachine$Frame" "TaleMachine$Frame" "method" "I",
  .lays "TaleMachine$Frame" "TaleMachine$Frame" "beginning" "I",
  .lays "TaleMachine$Frame" "TaleMachine$Frame" "self" "I",
  .lays "TaleMachine$Frame" "TaleMachine$Frame" "found" "I",
  .lays "TaleMachine$Frame" "TaleMachine$Frame" "place" "I",
  .lays "TaleMachine$Frame" "TaleMachine$Frame" "behind" "I",
  .lays "TaleMachine$Frame" "TaleMachine$Frame" "base" "I",
  .lays "TaleMachine$Frame" "TaleMachine$Frame" "floor" "I",
  .laysFinal "TaleMachine$History" "TaleMachine$History" "pointed" "[LTaleMachine$State;",
  .laysFinal "TaleMachine$History" "TaleMachine$History" "saved" "[LTaleMachine$State;",
  .laysFinal "TaleMachine$History" "TaleMachine$History" "isSaved" "[Z",
  .lays "TaleMachine$History" "TaleMachine$History" "points" "I",
  .laysFinal "TaleMachine$Script" "TaleMachine$Script" "bytes" "[I",
  .lays "TaleMachine$Script" "TaleMachine$Script" "length" "I",
  .laysFinal "TaleMachine$State" "TaleMachine$State" "kinds" "[I",
  .laysFinal "TaleMachine$State" "TaleMachine$State" "ints" "[I",
  .laysFinal "TaleMachine$State" "TaleMachine$State" "parents" "[I",
  .laysFinal "TaleMachine$Teller" "TaleMachine$Teller" "script" "LTaleMachine$Script;",
  .laysFinal "TaleMachine$Teller" "TaleMachine$Teller" "world" "LTaleMachine$World;",
  .laysFinal "TaleMachine$Teller" "TaleMachine$Teller" "history" "LTaleMachine$History;",
  .laysFinal "TaleMachine$Teller" "TaleMachine$Teller" "frames" "[LTaleMachine$Frame;",
  .laysFinal "TaleMachine$Teller" "TaleMachine$Teller" "values" "LTaleMachine$Values;",
  .laysFinal "TaleMachine$Teller" "TaleMachine$Teller" "sayings" "LTaleMachine$Values;",
  .laysFinal "TaleMachine$Teller" "TaleMachine$Teller" "result" "LTaleMachine$Values;",
  .lays "TaleMachine$Teller" "TaleMachine$Teller" "depth" "I",
  .lays "TaleMachine$Teller" "TaleMachine$Teller" "outcome" "I",
  .laysFinal "TaleMachine$Values" "TaleMachine$Values" "kinds" "[I",
  .laysFinal "TaleMachine$Values" "TaleMachine$Values" "ints" "[I",
  .lays "TaleMachine$Values" "TaleMachine$Values" "count" "I",
  .laysFinal "TaleMachine$World" "TaleMachine$World" "now" "LTaleMachine$State;",
  .lays "TaleMachine$World" "TaleMachine$World" "fixed" "I",
  .laysFinal "TaleMachine$World" "TaleMachine$World" "fixedLines" "[I",
  .laysFinal "TaleMachine$World" "TaleMachine$World" "fixedLengths" "[I",
  .laysFinal "TaleMachine$World" "TaleMachine$World" "line" "[I",
  .lays "TaleMachine$World" "TaleMachine$World" "length" "I",
  .laysFinal "TaleMachine$World" "TaleMachine$World" "reached" "[I",
  .lays "TaleMachine$World" "TaleMachine$World" "reachedCount" "I",
  .lays "TaleMachine$World" "TaleMachine$World" "reachedBits" "I",
  .laysFinal "TaleMachine" "TaleMachine" "script" "LTaleMachine$Script;",
  .laysFinal "TaleMachine" "TaleMachine" "world" "LTaleMachine$World;",
  .laysFinal "TaleMachine" "TaleMachine" "history" "LTaleMachine$History;",
  .laysFinal "TaleMachine" "TaleMachine" "teller" "LTaleMachine$Teller;",
  .lays "TaleMachineModel" "TaleMachineModel" "code" "I",
  .laysFinal "TaleMachineModel" "TaleMachineModel" "bytes" "[I",
  .lays "TaleMachineModel" "TaleMachineModel" "size" "I",
  .laysFinal "TaleMachineModel" "TaleMachineModel" "w" "[I",
  .lays "TaleMachineModel" "TaleMachineModel" "fixed" "I",
  .lays "TaleMachineModel" "TaleMachineModel" "points" "I",
  .laysFinal "TaleMachineModel" "TaleMachineModel" "saved" "[Z",
  .lays "TaleMachineModel" "TaleMachineModel" "length" "I",
  .laysFinal "TaleMachineModel" "TaleMachineModel" "line" "[I",
  .laysFinal "TaleMachineModel" "TaleMachineModel" "met" "[Z",
  .laysFinal "TaleMachineModel" "TaleMachineModel" "waiting" "[I",
  .laysFinal "TaleMachineModel" "TaleMachineModel" "nextParent" "[I",
  .lays "TaleMachineModel" "TaleMachineModel" "height" "I",
  .laysFinal "TaleMachineModel" "TaleMachineModel" "kind" "[I",
  .laysFinal "TaleMachineModel" "TaleMachineModel" "number" "[I",
  .lays "TaleMachineModel" "TaleMachineModel" "depth" "I"]
def AW_5 : List Cond := [.laysFinal "TaleMachineModel" "TaleMachineModel" "begin" "[I",
  .laysFinal "TaleMachineModel" "TaleMachineModel" "table" "[I",
  .laysFinal "TaleMachineModel" "TaleMachineModel" "handlers" "[I",
  .laysFinal "TaleMachineModel" "TaleMachineModel" "base" "[I",
  .laysFinal "TaleMachineModel" "TaleMachineModel" "locals" "[I",
  .laysFinal "TaleMachineModel" "TaleMachineModel" "self" "[I",
  .laysFinal "TaleMachineModel" "TaleMachineModel" "found" "[I",
  .laysFinal "TaleMachineModel" "TaleMachineModel" "place" "[I",
  .laysFinal "TaleMachineModel" "TaleMachineModel" "next" "[I",
  .lays "TaleMachineModel" "TaleMachineModel" "said" "I",
  .laysFinal "TaleMachineModel" "TaleMachineModel" "saidKind" "[I",
  .laysFinal "TaleMachineModel" "TaleMachineModel" "saidNumber" "[I",
  .lays "TaleMachineModel" "TaleMachineModel" "resultKind" "I",
  .lays "TaleMachineModel" "TaleMachineModel" "resultNumber" "I",
  .lays "TaleMachineModel" "TaleMachineModel" "ended" "I",
  .code y_TM_code prog_1_method_2_code 3 (some .boolean),
  .methodLink "TaleMachineLaw" 45 y_TM_code,
  .instanceMethod y_TM_code,
  .selects "TaleMachine" y_TM_code y_TM_code,
  .code y_Model_code prog_10_method_16_code 4 (some .boolean),
  .methodLink "TaleMachineLaw" 49 y_Model_code,
  .instanceMethod y_Model_code,
  .selects "TaleMachineModel" y_Model_code y_Model_code,
  .codeWith y_Law_object method_3_code 6 (some .int) [(0, 12, 15, 13), (0, 12, 19, 15)],
  .methodLink "TaleMachineLaw" 50 y_Law_object,
  .static y_Law_object,
  .initialized "TaleMachineLaw",
  .code y_Model_object prog_10_method_18_code 6 (some .int),
  .methodLink "TaleMachineLaw" 55 y_Model_object,
  .instanceMethod y_Model_object,
  .selects "TaleMachineModel" y_Model_object y_Model_object,
  .code y_Model_thrown prog_10_method_2_code 1 (some .int),
  .methodLink "TaleMachineLaw" 56 y_Model_thrown,
  .instanceMethod y_Model_thrown,
  .selects "TaleMachineModel" y_Model_thrown y_Model_thrown,
  .codeWith y_Law_property method_4_code 6 (some .int) [(0, 9, 12, 21), (0, 9, 16, 13), (0, 9, 20, 15)],
  .methodLink "TaleMachineLaw" 60 y_Law_property,
  .static y_Law_property,
  .code y_Model_property prog_10_method_19_code 6 none,
  .methodLink "TaleMachineLaw" 63 y_Model_property,
  .instanceMethod y_Model_property,
  .selects "TaleMachineModel" y_Model_property y_Model_property,
  .codeWith y_Law_begin method_5_code 4 (some .int) [(0, 6, 9, 21), (0, 6, 12, 13), (0, 6, 15, 15)],
  .methodLink "TaleMachineLaw" 64 y_Law_begin,
  .static y_Law_begin,
  .code y_Model_begin prog_10_method_24_code 5 none,
  .methodLink "TaleMachineLaw" 67 y_Model_begin,
  .instanceMethod y_Model_begin,
  .selects "TaleMachineModel" y_Model_begin y_Model_begin,
  .code y_TM_run prog_1_method_6_code 4 (some .int),
  .methodLink "TaleMachineLaw" 68 y_TM_run,
  .instanceMethod y_TM_run,
  .selects "TaleMachine" y_TM_run y_TM_run,
  .code y_Model_run prog_10_method_26_code 3 (some .int),
  .methodLink "TaleMachineLaw" 71 y_Model_run,
  .instanceMethod y_Model_run,
  .selects "TaleMachineModel" y_Model_run y_Model_run,
  .code y_TM_stop prog_1_method_7_code 1 (some .boolean),
  .methodLink "TaleMachineLaw" 72 y_TM_stop,
  .instanceMethod y_TM_stop]
def AW_6 : List Cond := [.selects "TaleMachine" y_TM_stop y_TM_stop,
  .code y_Model_stop prog_10_method_27_code 1 (some .boolean),
  .methodLink "TaleMachineLaw" 76 y_Model_stop,
  .instanceMethod y_Model_stop,
  .selects "TaleMachineModel" y_Model_stop y_Model_stop,
  .code y_TM_collect prog_1_method_8_code 1 (some .int),
  .methodLink "TaleMachineLaw" 77 y_TM_collect,
  .instanceMethod y_TM_collect,
  .selects "TaleMachine" y_TM_collect y_TM_collect,
  .code y_Model_collect prog_10_method_50_code 6 (some .int),
  .methodLink "TaleMachineLaw" 80 y_Model_collect,
  .instanceMethod y_Model_collect,
  .selects "TaleMachineModel" y_Model_collect y_Model_collect,
  .codeWith y_Law_stack method_6_code 5 (some .int) [(0, 10, 13, 21)],
  .methodLink "TaleMachineLaw" 81 y_Law_stack,
  .static y_Law_stack,
  .code y_Model_stack prog_10_method_51_code 3 (some .int),
  .methodLink "TaleMachineLaw" 84 y_Model_stack,
  .instanceMethod y_Model_stack,
  .selects "TaleMachineModel" y_Model_stack y_Model_stack,
  .codeWith y_Law_show method_7_code 4 (some .int) [(0, 9, 12, 21)],
  .methodLink "TaleMachineLaw" 85 y_Law_show,
  .static y_Law_show,
  .code y_Model_show prog_10_method_52_code 4 (some .int),
  .methodLink "TaleMachineLaw" 88 y_Model_show,
  .instanceMethod y_Model_show,
  .selects "TaleMachineModel" y_Model_show y_Model_show,
  .codeWith y_Law_said method_8_code 5 (some .int) [(0, 10, 13, 21)],
  .methodLink "TaleMachineLaw" 89 y_Law_said,
  .static y_Law_said,
  .code y_Model_said prog_10_method_53_code 3 (some .int),
  .methodLink "TaleMachineLaw" 91 y_Model_said,
  .instanceMethod y_Model_said,
  .selects "TaleMachineModel" y_Model_said y_Model_said,
  .codeWith y_Law_has method_9_code 6 (some .int) [(0, 12, 15, 21)],
  .methodLink "TaleMachineLaw" 92 y_Law_has,
  .static y_Law_has,
  .code y_Model_has prog_10_method_54_code 5 (some .int),
  .methodLink "TaleMachineLaw" 94 y_Model_has,
  .instanceMethod y_Model_has,
  .selects "TaleMachineModel" y_Model_has y_Model_has,
  .code y_TM_isOf prog_1_method_13_code 3 (some .boolean),
  .methodLink "TaleMachineLaw" 95 y_TM_isOf,
  .instanceMethod y_TM_isOf,
  .selects "TaleMachine" y_TM_isOf y_TM_isOf,
  .code y_Model_isOf prog_10_method_55_code 3 (some .boolean),
  .methodLink "TaleMachineLaw" 98 y_Model_isOf,
  .instanceMethod y_Model_isOf,
  .selects "TaleMachineModel" y_Model_isOf y_Model_isOf,
  .classLink "TaleMachineLaw" 8 "TaleMachine",
  .instantiable "TaleMachine" 4,
  .code y_TM_init prog_1_method_1_code 1 none,
  .methodLink "TaleMachineLaw" 41 y_TM_init,
  .instanceMethod y_TM_init,
  .classLink "TaleMachineLaw" 42 "TaleMachineModel",
  .instantiable "TaleMachineModel" 31,
  .code y_Model_init prog_10_method_1_code 1 none,
  .methodLink "TaleMachineLaw" 44 y_Model_init,
  .instanceMethod y_Model_init,
  .arrayClass .long]
def AW : List Cond := AW_0 ++ (AW_1 ++ (AW_2 ++ (AW_3 ++ (AW_4 ++ (AW_5 ++ (AW_6))))))
theorem k_0 : (.fieldLink "TaleMachineModel" 75 "TaleMachineModel" "code" "I" : Cond) ∈ AW := List.mem_of_getElem? (i := 0) rfl
theorem k_1 : (.code y_Model_outside prog_10_method_4_code 3 (some .boolean) : Cond) ∈ AW := List.mem_of_getElem? (i := 1) rfl
theorem k_2 : (.methodLink "TaleMachineModel" 78 y_Model_outside : Cond) ∈ AW := List.mem_of_getElem? (i := 2) rfl
theorem k_3 : (.static y_Model_outside : Cond) ∈ AW := List.mem_of_getElem? (i := 3) rfl
theorem k_4 : (.initialized "TaleMachineModel" : Cond) ∈ AW := List.mem_of_getElem? (i := 4) rfl
theorem k_5 : (.fieldLink "TaleMachineModel" 13 "TaleMachineModel" "w" "[I" : Cond) ∈ AW := List.mem_of_getElem? (i := 5) rfl
theorem k_6 : (.code y_Model_isThere prog_10_method_5_code 2 (some .boolean) : Cond) ∈ AW := List.mem_of_getElem? (i := 6) rfl
theorem k_7 : (.methodLink "TaleMachineModel" 107 y_Model_isThere : Cond) ∈ AW := List.mem_of_getElem? (i := 7) rfl
theorem k_8 : (.instanceMethod y_Model_isThere : Cond) ∈ AW := List.mem_of_getElem? (i := 8) rfl
theorem k_9 : (.selects "TaleMachineModel" y_Model_isThere y_Model_isThere : Cond) ∈ AW := List.mem_of_getElem? (i := 9) rfl
theorem k_10 : (.code y_Model_placeOf prog_10_method_8_code 3 (some .int) : Cond) ∈ AW := List.mem_of_getElem? (i := 10) rfl
theorem k_11 : (.methodLink "TaleMachineModel" 82 y_Model_placeOf : Cond) ∈ AW := List.mem_of_getElem? (i := 11) rfl
theorem k_12 : (.instanceMethod y_Model_placeOf : Cond) ∈ AW := List.mem_of_getElem? (i := 12) rfl
theorem k_13 : (.selects "TaleMachineModel" y_Model_placeOf y_Model_placeOf : Cond) ∈ AW := List.mem_of_getElem? (i := 13) rfl
theorem k_14 : (.fieldLink "TaleMachineModel" 104 "TaleMachineModel" "size" "I" : Cond) ∈ AW := List.mem_of_getElem? (i := 14) rfl
theorem k_15 : (.fieldLink "TaleMachineModel" 7 "TaleMachineModel" "bytes" "[I" : Cond) ∈ AW := List.mem_of_getElem? (i := 15) rfl
theorem k_16 : (.code y_Model_isParent prog_10_method_17_code 2 (some .boolean) : Cond) ∈ AW := List.mem_of_getElem? (i := 16) rfl
theorem k_17 : (.methodLink "TaleMachineModel" 111 y_Model_isParent : Cond) ∈ AW := List.mem_of_getElem? (i := 17) rfl
theorem k_18 : (.instanceMethod y_Model_isParent : Cond) ∈ AW := List.mem_of_getElem? (i := 18) rfl
theorem k_19 : (.selects "TaleMachineModel" y_Model_isParent y_Model_isParent : Cond) ∈ AW := List.mem_of_getElem? (i := 19) rfl
theorem k_20 : (.fieldLink "TaleMachineModel" 71 "TaleMachineModel" "ended" "I" : Cond) ∈ AW := List.mem_of_getElem? (i := 20) rfl
theorem k_21 : (.fieldLink "TaleMachineModel" 114 "TaleMachineModel" "fixed" "I" : Cond) ∈ AW := List.mem_of_getElem? (i := 21) rfl
theorem k_22 : (.code y_Model_empty prog_10_method_11_code 3 none : Cond) ∈ AW := List.mem_of_getElem? (i := 22) rfl
theorem k_23 : (.methodLink "TaleMachineModel" 117 y_Model_empty : Cond) ∈ AW := List.mem_of_getElem? (i := 23) rfl
theorem k_24 : (.instanceMethod y_Model_empty : Cond) ∈ AW := List.mem_of_getElem? (i := 24) rfl
theorem k_25 : (.selects "TaleMachineModel" y_Model_empty y_Model_empty : Cond) ∈ AW := List.mem_of_getElem? (i := 25) rfl
theorem k_26 : (.fieldLink "TaleMachineModel" 16 "TaleMachineModel" "saved" "[Z" : Cond) ∈ AW := List.mem_of_getElem? (i := 26) rfl
theorem k_27 : (.fieldLink "TaleMachineModel" 147 "TaleMachineModel" "resultKind" "I" : Cond) ∈ AW := List.mem_of_getElem? (i := 27) rfl
theorem k_28 : (.fieldLink "TaleMachineModel" 150 "TaleMachineModel" "resultNumber" "I" : Cond) ∈ AW := List.mem_of_getElem? (i := 28) rfl
theorem k_29 : (.code y_Model_mark prog_10_method_48_code 4 (some .int) : Cond) ∈ AW := List.mem_of_getElem? (i := 29) rfl
theorem k_30 : (.methodLink "TaleMachineModel" 232 y_Model_mark : Cond) ∈ AW := List.mem_of_getElem? (i := 30) rfl
theorem k_31 : (.instanceMethod y_Model_mark : Cond) ∈ AW := List.mem_of_getElem? (i := 31) rfl
theorem k_32 : (.selects "TaleMachineModel" y_Model_mark y_Model_mark : Cond) ∈ AW := List.mem_of_getElem? (i := 32) rfl
theorem k_33 : (.fieldLink "TaleMachineModel" 130 "TaleMachineModel" "height" "I" : Cond) ∈ AW := List.mem_of_getElem? (i := 33) rfl
theorem k_34 : (.fieldLink "TaleMachineModel" 127 "TaleMachineModel" "depth" "I" : Cond) ∈ AW := List.mem_of_getElem? (i := 34) rfl
theorem k_35 : (.code y_Model_refuse prog_10_method_3_code 2 (some .int) : Cond) ∈ AW := List.mem_of_getElem? (i := 35) rfl
theorem k_36 : (.methodLink "TaleMachineModel" 238 y_Model_refuse : Cond) ∈ AW := List.mem_of_getElem? (i := 36) rfl
theorem k_37 : (.instanceMethod y_Model_refuse : Cond) ∈ AW := List.mem_of_getElem? (i := 37) rfl
theorem k_38 : (.selects "TaleMachineModel" y_Model_refuse y_Model_refuse : Cond) ∈ AW := List.mem_of_getElem? (i := 38) rfl
theorem k_39 : (.fieldLink "TaleMachineModel" 144 "TaleMachineModel" "said" "I" : Cond) ∈ AW := List.mem_of_getElem? (i := 39) rfl
theorem k_40 : (.fieldLink "TaleMachineModel" 153 "TaleMachineModel" "points" "I" : Cond) ∈ AW := List.mem_of_getElem? (i := 40) rfl
theorem k_41 : (.methodLink "TaleMachine$Script" 3 objectInit : Cond) ∈ AW := List.mem_of_getElem? (i := 41) rfl
theorem k_42 : (.instanceMethod objectInit : Cond) ∈ AW := List.mem_of_getElem? (i := 42) rfl
theorem k_43 : (.code objectInit object_method_1_code 1 none : Cond) ∈ AW := List.mem_of_getElem? (i := 43) rfl
theorem k_44 : (.arrayClass .int : Cond) ∈ AW := List.mem_of_getElem? (i := 44) rfl
theorem k_45 : (.fieldLink "TaleMachine$Script" 9 "TaleMachine$Script" "bytes" "[I" : Cond) ∈ AW := List.mem_of_getElem? (i := 45) rfl
theorem k_46 : (.methodLink "TaleMachine$Frame" 1 objectInit : Cond) ∈ AW := List.mem_of_getElem? (i := 46) rfl
theorem k_47 : (.methodLink "TaleMachine$Values" 1 objectInit : Cond) ∈ AW := List.mem_of_getElem? (i := 47) rfl
theorem k_48 : (.fieldLink "TaleMachine$Values" 7 "TaleMachine$Values" "kinds" "[I" : Cond) ∈ AW := List.mem_of_getElem? (i := 48) rfl
theorem k_49 : (.fieldLink "TaleMachine$Values" 13 "TaleMachine$Values" "ints" "[I" : Cond) ∈ AW := List.mem_of_getElem? (i := 49) rfl
theorem k_50 : (.methodLink "TaleMachine$State" 3 objectInit : Cond) ∈ AW := List.mem_of_getElem? (i := 50) rfl
theorem k_51 : (.fieldLink "TaleMachine$State" 9 "TaleMachine$State" "kinds" "[I" : Cond) ∈ AW := List.mem_of_getElem? (i := 51) rfl
theorem k_52 : (.fieldLink "TaleMachine$State" 15 "TaleMachine$State" "ints" "[I" : Cond) ∈ AW := List.mem_of_getElem? (i := 52) rfl
theorem k_53 : (.fieldLink "TaleMachine$State" 18 "TaleMachine$State" "parents" "[I" : Cond) ∈ AW := List.mem_of_getElem? (i := 53) rfl
theorem k_54 : (.code y_Arrays_fill prog_19_method_103_code 4 none : Cond) ∈ AW := List.mem_of_getElem? (i := 54) rfl
theorem k_55 : (.methodLink "TaleMachine$State" 21 y_Arrays_fill : Cond) ∈ AW := List.mem_of_getElem? (i := 55) rfl
theorem k_56 : (.static y_Arrays_fill : Cond) ∈ AW := List.mem_of_getElem? (i := 56) rfl
theorem k_57 : (.initialized "java/util/Arrays" : Cond) ∈ AW := List.mem_of_getElem? (i := 57) rfl
theorem k_58 : (.methodLink "TaleMachine$World" 3 objectInit : Cond) ∈ AW := List.mem_of_getElem? (i := 58) rfl
theorem k_59 : (.classLink "TaleMachine$World" 9 "TaleMachine$State" : Cond) ∈ AW := List.mem_of_getElem? (i := 59) rfl
theorem k_60 : (.instantiable "TaleMachine$State" 3 : Cond) ∈ AW := List.mem_of_getElem? (i := 60) rfl
theorem k_61 : (.initialized "TaleMachine$State" : Cond) ∈ AW := List.mem_of_getElem? (i := 61) rfl
theorem k_62 : (.code y_State_init prog_5_method_1_code 1 none : Cond) ∈ AW := List.mem_of_getElem? (i := 62) rfl
theorem k_63 : (.methodLink "TaleMachine$World" 11 y_State_init : Cond) ∈ AW := List.mem_of_getElem? (i := 63) rfl
theorem k_64 : (.instanceMethod y_State_init : Cond) ∈ AW := List.mem_of_getElem? (i := 64) rfl
theorem k_65 : (.fieldLink "TaleMachine$World" 12 "TaleMachine$World" "now" "LTaleMachine$State;" : Cond) ∈ AW := List.mem_of_getElem? (i := 65) rfl
theorem k_66 : (.fieldLink "TaleMachine$World" 18 "TaleMachine$World" "fixedLines" "[I" : Cond) ∈ AW := List.mem_of_getElem? (i := 66) rfl
theorem k_67 : (.fieldLink "TaleMachine$World" 22 "TaleMachine$World" "fixedLengths" "[I" : Cond) ∈ AW := List.mem_of_getElem? (i := 67) rfl
theorem k_68 : (.fieldLink "TaleMachine$World" 25 "TaleMachine$World" "line" "[I" : Cond) ∈ AW := List.mem_of_getElem? (i := 68) rfl
theorem k_69 : (.fieldLink "TaleMachine$World" 28 "TaleMachine$World" "reached" "[I" : Cond) ∈ AW := List.mem_of_getElem? (i := 69) rfl
theorem k_70 : (.methodLink "TaleMachine$History" 3 objectInit : Cond) ∈ AW := List.mem_of_getElem? (i := 70) rfl
theorem k_71 : (.classLink "TaleMachine$History" 9 "TaleMachine$State" : Cond) ∈ AW := List.mem_of_getElem? (i := 71) rfl
theorem k_72 : (.fieldLink "TaleMachine$History" 11 "TaleMachine$History" "pointed" "[LTaleMachine$State;" : Cond) ∈ AW := List.mem_of_getElem? (i := 72) rfl
theorem k_73 : (.fieldLink "TaleMachine$History" 17 "TaleMachine$History" "saved" "[LTaleMachine$State;" : Cond) ∈ AW := List.mem_of_getElem? (i := 73) rfl
theorem k_74 : (.arrayClass .boolean : Cond) ∈ AW := List.mem_of_getElem? (i := 74) rfl
theorem k_75 : (.fieldLink "TaleMachine$History" 20 "TaleMachine$History" "isSaved" "[Z" : Cond) ∈ AW := List.mem_of_getElem? (i := 75) rfl
theorem k_76 : (.methodLink "TaleMachine$History" 24 y_State_init : Cond) ∈ AW := List.mem_of_getElem? (i := 76) rfl
theorem k_77 : (.methodLink "TaleMachine$Teller" 3 objectInit : Cond) ∈ AW := List.mem_of_getElem? (i := 77) rfl
theorem k_78 : (.classLink "TaleMachine$Teller" 9 "TaleMachine$Frame" : Cond) ∈ AW := List.mem_of_getElem? (i := 78) rfl
theorem k_79 : (.fieldLink "TaleMachine$Teller" 11 "TaleMachine$Teller" "frames" "[LTaleMachine$Frame;" : Cond) ∈ AW := List.mem_of_getElem? (i := 79) rfl
theorem k_80 : (.classLink "TaleMachine$Teller" 17 "TaleMachine$Values" : Cond) ∈ AW := List.mem_of_getElem? (i := 80) rfl
theorem k_81 : (.instantiable "TaleMachine$Values" 3 : Cond) ∈ AW := List.mem_of_getElem? (i := 81) rfl
theorem k_82 : (.initialized "TaleMachine$Values" : Cond) ∈ AW := List.mem_of_getElem? (i := 82) rfl
theorem k_83 : (.code y_Values_init prog_7_method_1_code 2 none : Cond) ∈ AW := List.mem_of_getElem? (i := 83) rfl
theorem k_84 : (.methodLink "TaleMachine$Teller" 19 y_Values_init : Cond) ∈ AW := List.mem_of_getElem? (i := 84) rfl
theorem k_85 : (.instanceMethod y_Values_init : Cond) ∈ AW := List.mem_of_getElem? (i := 85) rfl
theorem k_86 : (.fieldLink "TaleMachine$Teller" 22 "TaleMachine$Teller" "values" "LTaleMachine$Values;" : Cond) ∈ AW := List.mem_of_getElem? (i := 86) rfl
theorem k_87 : (.fieldLink "TaleMachine$Teller" 26 "TaleMachine$Teller" "sayings" "LTaleMachine$Values;" : Cond) ∈ AW := List.mem_of_getElem? (i := 87) rfl
theorem k_88 : (.fieldLink "TaleMachine$Teller" 29 "TaleMachine$Teller" "result" "LTaleMachine$Values;" : Cond) ∈ AW := List.mem_of_getElem? (i := 88) rfl
theorem k_89 : (.fieldLink "TaleMachine$Teller" 32 "TaleMachine$Teller" "outcome" "I" : Cond) ∈ AW := List.mem_of_getElem? (i := 89) rfl
theorem k_90 : (.fieldLink "TaleMachine$Teller" 36 "TaleMachine$Teller" "script" "LTaleMachine$Script;" : Cond) ∈ AW := List.mem_of_getElem? (i := 90) rfl
theorem k_91 : (.fieldLink "TaleMachine$Teller" 40 "TaleMachine$Teller" "world" "LTaleMachine$World;" : Cond) ∈ AW := List.mem_of_getElem? (i := 91) rfl
theorem k_92 : (.fieldLink "TaleMachine$Teller" 44 "TaleMachine$Teller" "history" "LTaleMachine$History;" : Cond) ∈ AW := List.mem_of_getElem? (i := 92) rfl
theorem k_93 : (.instantiable "TaleMachine$Frame" 8 : Cond) ∈ AW := List.mem_of_getElem? (i := 93) rfl
theorem k_94 : (.initialized "TaleMachine$Frame" : Cond) ∈ AW := List.mem_of_getElem? (i := 94) rfl
theorem k_95 : (.code y_Frame_init prog_2_method_1_code 1 none : Cond) ∈ AW := List.mem_of_getElem? (i := 95) rfl
theorem k_96 : (.instanceMethod y_Frame_init : Cond) ∈ AW := List.mem_of_getElem? (i := 96) rfl
theorem k_97 : (.methodLink "TaleMachine" 3 objectInit : Cond) ∈ AW := List.mem_of_getElem? (i := 97) rfl
theorem k_98 : (.classLink "TaleMachine" 9 "TaleMachine$Script" : Cond) ∈ AW := List.mem_of_getElem? (i := 98) rfl
theorem k_99 : (.instantiable "TaleMachine$Script" 2 : Cond) ∈ AW := List.mem_of_getElem? (i := 99) rfl
theorem k_100 : (.initialized "TaleMachine$Script" : Cond) ∈ AW := List.mem_of_getElem? (i := 100) rfl
theorem k_101 : (.code y_Script_init prog_4_method_1_code 1 none : Cond) ∈ AW := List.mem_of_getElem? (i := 101) rfl
theorem k_102 : (.instanceMethod y_Script_init : Cond) ∈ AW := List.mem_of_getElem? (i := 102) rfl
theorem k_103 : (.fieldLink "TaleMachine" 12 "TaleMachine" "script" "LTaleMachine$Script;" : Cond) ∈ AW := List.mem_of_getElem? (i := 103) rfl
theorem k_104 : (.classLink "TaleMachine" 16 "TaleMachine$World" : Cond) ∈ AW := List.mem_of_getElem? (i := 104) rfl
theorem k_105 : (.instantiable "TaleMachine$World" 9 : Cond) ∈ AW := List.mem_of_getElem? (i := 105) rfl
theorem k_106 : (.initialized "TaleMachine$World" : Cond) ∈ AW := List.mem_of_getElem? (i := 106) rfl
theorem k_107 : (.code y_World_init prog_8_method_1_code 1 none : Cond) ∈ AW := List.mem_of_getElem? (i := 107) rfl
theorem k_108 : (.instanceMethod y_World_init : Cond) ∈ AW := List.mem_of_getElem? (i := 108) rfl
theorem k_109 : (.fieldLink "TaleMachine" 19 "TaleMachine" "world" "LTaleMachine$World;" : Cond) ∈ AW := List.mem_of_getElem? (i := 109) rfl
theorem k_110 : (.classLink "TaleMachine" 23 "TaleMachine$History" : Cond) ∈ AW := List.mem_of_getElem? (i := 110) rfl
theorem k_111 : (.instantiable "TaleMachine$History" 4 : Cond) ∈ AW := List.mem_of_getElem? (i := 111) rfl
theorem k_112 : (.initialized "TaleMachine$History" : Cond) ∈ AW := List.mem_of_getElem? (i := 112) rfl
theorem k_113 : (.code y_History_init prog_3_method_1_code 2 none : Cond) ∈ AW := List.mem_of_getElem? (i := 113) rfl
theorem k_114 : (.methodLink "TaleMachine" 25 y_History_init : Cond) ∈ AW := List.mem_of_getElem? (i := 114) rfl
theorem k_115 : (.instanceMethod y_History_init : Cond) ∈ AW := List.mem_of_getElem? (i := 115) rfl
theorem k_116 : (.fieldLink "TaleMachine" 26 "TaleMachine" "history" "LTaleMachine$History;" : Cond) ∈ AW := List.mem_of_getElem? (i := 116) rfl
theorem k_117 : (.classLink "TaleMachine" 30 "TaleMachine$Teller" : Cond) ∈ AW := List.mem_of_getElem? (i := 117) rfl
theorem k_118 : (.instantiable "TaleMachine$Teller" 9 : Cond) ∈ AW := List.mem_of_getElem? (i := 118) rfl
theorem k_119 : (.initialized "TaleMachine$Teller" : Cond) ∈ AW := List.mem_of_getElem? (i := 119) rfl
theorem k_120 : (.code y_Teller_init prog_6_method_1_code 5 none : Cond) ∈ AW := List.mem_of_getElem? (i := 120) rfl
theorem k_121 : (.methodLink "TaleMachine" 32 y_Teller_init : Cond) ∈ AW := List.mem_of_getElem? (i := 121) rfl
theorem k_122 : (.instanceMethod y_Teller_init : Cond) ∈ AW := List.mem_of_getElem? (i := 122) rfl
theorem k_123 : (.fieldLink "TaleMachine" 35 "TaleMachine" "teller" "LTaleMachine$Teller;" : Cond) ∈ AW := List.mem_of_getElem? (i := 123) rfl
theorem k_124 : (.fieldLink "TaleMachine$Script" 15 "TaleMachine$Script" "length" "I" : Cond) ∈ AW := List.mem_of_getElem? (i := 124) rfl
theorem k_125 : (.code y_Script_append prog_4_method_2_code 4 (some .boolean) : Cond) ∈ AW := List.mem_of_getElem? (i := 125) rfl
theorem k_126 : (.methodLink "TaleMachine" 39 y_Script_append : Cond) ∈ AW := List.mem_of_getElem? (i := 126) rfl
theorem k_127 : (.instanceMethod y_Script_append : Cond) ∈ AW := List.mem_of_getElem? (i := 127) rfl
theorem k_128 : (.selects "TaleMachine$Script" y_Script_append y_Script_append : Cond) ∈ AW := List.mem_of_getElem? (i := 128) rfl
theorem k_129 : (.fieldLink "TaleMachine$World" 31 "TaleMachine$World" "fixed" "I" : Cond) ∈ AW := List.mem_of_getElem? (i := 129) rfl
theorem k_130 : (.code y_World_isFixed prog_8_method_2_code 2 (some .boolean) : Cond) ∈ AW := List.mem_of_getElem? (i := 130) rfl
theorem k_131 : (.methodLink "TaleMachine$World" 35 y_World_isFixed : Cond) ∈ AW := List.mem_of_getElem? (i := 131) rfl
theorem k_132 : (.instanceMethod y_World_isFixed : Cond) ∈ AW := List.mem_of_getElem? (i := 132) rfl
theorem k_133 : (.selects "TaleMachine$World" y_World_isFixed y_World_isFixed : Cond) ∈ AW := List.mem_of_getElem? (i := 133) rfl
theorem k_134 : (.fieldLink "TaleMachine$World" 39 "TaleMachine$State" "parents" "[I" : Cond) ∈ AW := List.mem_of_getElem? (i := 134) rfl
theorem k_135 : (.fieldLink "TaleMachine$World" 85 "TaleMachine$World" "reachedCount" "I" : Cond) ∈ AW := List.mem_of_getElem? (i := 135) rfl
theorem k_136 : (.fieldLink "TaleMachine$World" 88 "TaleMachine$World" "reachedBits" "I" : Cond) ∈ AW := List.mem_of_getElem? (i := 136) rfl
theorem k_137 : (.code y_World_isThere prog_8_method_3_code 2 (some .boolean) : Cond) ∈ AW := List.mem_of_getElem? (i := 137) rfl
theorem k_138 : (.methodLink "TaleMachine$World" 82 y_World_isThere : Cond) ∈ AW := List.mem_of_getElem? (i := 138) rfl
theorem k_139 : (.instanceMethod y_World_isThere : Cond) ∈ AW := List.mem_of_getElem? (i := 139) rfl
theorem k_140 : (.selects "TaleMachine$World" y_World_isThere y_World_isThere : Cond) ∈ AW := List.mem_of_getElem? (i := 140) rfl
theorem k_141 : (.fieldLink "TaleMachine$Teller" 52 "TaleMachine$Values" "count" "I" : Cond) ∈ AW := List.mem_of_getElem? (i := 141) rfl
theorem k_142 : (.fieldLink "TaleMachine$Teller" 49 "TaleMachine$Teller" "depth" "I" : Cond) ∈ AW := List.mem_of_getElem? (i := 142) rfl
theorem k_143 : (.code y_World_forgetReached prog_8_method_18_code 1 none : Cond) ∈ AW := List.mem_of_getElem? (i := 143) rfl
theorem k_144 : (.methodLink "TaleMachine" 124 y_World_forgetReached : Cond) ∈ AW := List.mem_of_getElem? (i := 144) rfl
theorem k_145 : (.instanceMethod y_World_forgetReached : Cond) ∈ AW := List.mem_of_getElem? (i := 145) rfl
theorem k_146 : (.selects "TaleMachine$World" y_World_forgetReached y_World_forgetReached : Cond) ∈ AW := List.mem_of_getElem? (i := 146) rfl
theorem k_147 : (.code y_Teller_reachRoots prog_6_method_6_code 2 none : Cond) ∈ AW := List.mem_of_getElem? (i := 147) rfl
theorem k_148 : (.methodLink "TaleMachine" 127 y_Teller_reachRoots : Cond) ∈ AW := List.mem_of_getElem? (i := 148) rfl
theorem k_149 : (.instanceMethod y_Teller_reachRoots : Cond) ∈ AW := List.mem_of_getElem? (i := 149) rfl
theorem k_150 : (.selects "TaleMachine$Teller" y_Teller_reachRoots y_Teller_reachRoots : Cond) ∈ AW := List.mem_of_getElem? (i := 150) rfl
theorem k_151 : (.code y_World_sweep prog_8_method_21_code 3 (some .int) : Cond) ∈ AW := List.mem_of_getElem? (i := 151) rfl
theorem k_152 : (.methodLink "TaleMachine" 130 y_World_sweep : Cond) ∈ AW := List.mem_of_getElem? (i := 152) rfl
theorem k_153 : (.instanceMethod y_World_sweep : Cond) ∈ AW := List.mem_of_getElem? (i := 153) rfl
theorem k_154 : (.selects "TaleMachine$World" y_World_sweep y_World_sweep : Cond) ∈ AW := List.mem_of_getElem? (i := 154) rfl
theorem k_155 : (.code y_World_descends prog_8_method_17_code 3 (some .boolean) : Cond) ∈ AW := List.mem_of_getElem? (i := 155) rfl
theorem k_156 : (.methodLink "TaleMachine" 179 y_World_descends : Cond) ∈ AW := List.mem_of_getElem? (i := 156) rfl
theorem k_157 : (.instanceMethod y_World_descends : Cond) ∈ AW := List.mem_of_getElem? (i := 157) rfl
theorem k_158 : (.selects "TaleMachine$World" y_World_descends y_World_descends : Cond) ∈ AW := List.mem_of_getElem? (i := 158) rfl
theorem k_159 : (.fieldLink "TaleMachine" 58 "TaleMachine$Teller" "outcome" "I" : Cond) ∈ AW := List.mem_of_getElem? (i := 159) rfl
theorem k_160 : (.methodLink "TaleMachine" 111 ⟨"java/lang/Math", "min", "(II)I"⟩ : Cond) ∈ AW := List.mem_of_getElem? (i := 160) rfl
theorem k_161 : (.static ⟨"java/lang/Math", "min", "(II)I"⟩ : Cond) ∈ AW := List.mem_of_getElem? (i := 161) rfl
theorem k_162 : (.initialized "java/lang/Math" : Cond) ∈ AW := List.mem_of_getElem? (i := 162) rfl
theorem k_163 : (.code ⟨"java/lang/Math", "min", "(II)I"⟩ prog_14_method_69_code 2 (some .int) : Cond) ∈ AW := List.mem_of_getElem? (i := 163) rfl
theorem k_164 : (.fieldLink "TaleMachine$World" 48 "TaleMachine$World" "length" "I" : Cond) ∈ AW := List.mem_of_getElem? (i := 164) rfl
theorem k_165 : (.fieldLink "TaleMachine" 54 "TaleMachine$World" "fixed" "I" : Cond) ∈ AW := List.mem_of_getElem? (i := 165) rfl
theorem k_166 : (.code y_History_dropSaved prog_3_method_8_code 2 none : Cond) ∈ AW := List.mem_of_getElem? (i := 166) rfl
theorem k_167 : (.methodLink "TaleMachine" 66 y_History_dropSaved : Cond) ∈ AW := List.mem_of_getElem? (i := 167) rfl
theorem k_168 : (.instanceMethod y_History_dropSaved : Cond) ∈ AW := List.mem_of_getElem? (i := 168) rfl
theorem k_169 : (.selects "TaleMachine$History" y_History_dropSaved y_History_dropSaved : Cond) ∈ AW := List.mem_of_getElem? (i := 169) rfl
theorem k_170 : (.code y_World_fix prog_8_method_8_code 8 (some .int) : Cond) ∈ AW := List.mem_of_getElem? (i := 170) rfl
theorem k_171 : (.methodLink "TaleMachine" 69 y_World_fix : Cond) ∈ AW := List.mem_of_getElem? (i := 171) rfl
theorem k_172 : (.instanceMethod y_World_fix : Cond) ∈ AW := List.mem_of_getElem? (i := 172) rfl
theorem k_173 : (.selects "TaleMachine$World" y_World_fix y_World_fix : Cond) ∈ AW := List.mem_of_getElem? (i := 173) rfl
theorem k_174 : (.fieldLink "TaleMachine" 142 "TaleMachine$Teller" "depth" "I" : Cond) ∈ AW := List.mem_of_getElem? (i := 174) rfl
theorem k_175 : (.fieldLink "TaleMachine" 159 "TaleMachine$History" "points" "I" : Cond) ∈ AW := List.mem_of_getElem? (i := 175) rfl
theorem k_176 : (.code y_World_count prog_8_method_4_code 3 (some .int) : Cond) ∈ AW := List.mem_of_getElem? (i := 176) rfl
theorem k_177 : (.methodLink "TaleMachine" 162 y_World_count : Cond) ∈ AW := List.mem_of_getElem? (i := 177) rfl
theorem k_178 : (.instanceMethod y_World_count : Cond) ∈ AW := List.mem_of_getElem? (i := 178) rfl
theorem k_179 : (.selects "TaleMachine$World" y_World_count y_World_count : Cond) ∈ AW := List.mem_of_getElem? (i := 179) rfl
theorem k_180 : (.fieldLink "TaleMachine" 165 "TaleMachine$Teller" "sayings" "LTaleMachine$Values;" : Cond) ∈ AW := List.mem_of_getElem? (i := 180) rfl
theorem k_181 : (.fieldLink "TaleMachine" 168 "TaleMachine$Values" "count" "I" : Cond) ∈ AW := List.mem_of_getElem? (i := 181) rfl
theorem k_182 : (.methodLink "TaleMachine" 43 y_World_isFixed : Cond) ∈ AW := List.mem_of_getElem? (i := 182) rfl
theorem k_183 : (.classLink "TaleMachine" 47 "java/lang/IllegalArgumentException" : Cond) ∈ AW := List.mem_of_getElem? (i := 183) rfl
theorem k_184 : (.initialized "java/lang/IllegalArgumentException" : Cond) ∈ AW := List.mem_of_getElem? (i := 184) rfl
theorem k_185 : (.methodLink "TaleMachine" 73 y_World_isThere : Cond) ∈ AW := List.mem_of_getElem? (i := 185) rfl
theorem k_186 : (.classLink "TaleMachine" 76 "java/util/NoSuchElementException" : Cond) ∈ AW := List.mem_of_getElem? (i := 186) rfl
theorem k_187 : (.initialized "java/util/NoSuchElementException" : Cond) ∈ AW := List.mem_of_getElem? (i := 187) rfl
theorem k_188 : (.fieldLink "TaleMachine" 134 "TaleMachine$Teller" "values" "LTaleMachine$Values;" : Cond) ∈ AW := List.mem_of_getElem? (i := 188) rfl
theorem k_189 : (.code y_TM_part prog_1_method_15_code 3 (some .int) : Cond) ∈ AW := List.mem_of_getElem? (i := 189) rfl
theorem k_190 : (.methodLink "TaleMachine" 138 y_TM_part : Cond) ∈ AW := List.mem_of_getElem? (i := 190) rfl
theorem k_191 : (.static y_TM_part : Cond) ∈ AW := List.mem_of_getElem? (i := 191) rfl
theorem k_192 : (.initialized "TaleMachine" : Cond) ∈ AW := List.mem_of_getElem? (i := 192) rfl
theorem k_193 : (.fieldLink "TaleMachine" 174 "TaleMachine$Teller" "result" "LTaleMachine$Values;" : Cond) ∈ AW := List.mem_of_getElem? (i := 193) rfl
theorem k_194 : (.methodLink "TaleMachineModel" 1 objectInit : Cond) ∈ AW := List.mem_of_getElem? (i := 194) rfl
theorem k_195 : (.fieldLink "TaleMachineModel" 20 "TaleMachineModel" "line" "[I" : Cond) ∈ AW := List.mem_of_getElem? (i := 195) rfl
theorem k_196 : (.fieldLink "TaleMachineModel" 23 "TaleMachineModel" "met" "[Z" : Cond) ∈ AW := List.mem_of_getElem? (i := 196) rfl
theorem k_197 : (.fieldLink "TaleMachineModel" 26 "TaleMachineModel" "waiting" "[I" : Cond) ∈ AW := List.mem_of_getElem? (i := 197) rfl
theorem k_198 : (.fieldLink "TaleMachineModel" 29 "TaleMachineModel" "nextParent" "[I" : Cond) ∈ AW := List.mem_of_getElem? (i := 198) rfl
theorem k_199 : (.fieldLink "TaleMachineModel" 32 "TaleMachineModel" "kind" "[I" : Cond) ∈ AW := List.mem_of_getElem? (i := 199) rfl
theorem k_200 : (.fieldLink "TaleMachineModel" 35 "TaleMachineModel" "number" "[I" : Cond) ∈ AW := List.mem_of_getElem? (i := 200) rfl
theorem k_201 : (.fieldLink "TaleMachineModel" 38 "TaleMachineModel" "begin" "[I" : Cond) ∈ AW := List.mem_of_getElem? (i := 201) rfl
theorem k_202 : (.fieldLink "TaleMachineModel" 41 "TaleMachineModel" "table" "[I" : Cond) ∈ AW := List.mem_of_getElem? (i := 202) rfl
theorem k_203 : (.fieldLink "TaleMachineModel" 44 "TaleMachineModel" "handlers" "[I" : Cond) ∈ AW := List.mem_of_getElem? (i := 203) rfl
theorem k_204 : (.fieldLink "TaleMachineModel" 47 "TaleMachineModel" "base" "[I" : Cond) ∈ AW := List.mem_of_getElem? (i := 204) rfl
theorem k_205 : (.fieldLink "TaleMachineModel" 50 "TaleMachineModel" "locals" "[I" : Cond) ∈ AW := List.mem_of_getElem? (i := 205) rfl
theorem k_206 : (.fieldLink "TaleMachineModel" 53 "TaleMachineModel" "self" "[I" : Cond) ∈ AW := List.mem_of_getElem? (i := 206) rfl
theorem k_207 : (.fieldLink "TaleMachineModel" 56 "TaleMachineModel" "found" "[I" : Cond) ∈ AW := List.mem_of_getElem? (i := 207) rfl
theorem k_208 : (.fieldLink "TaleMachineModel" 59 "TaleMachineModel" "place" "[I" : Cond) ∈ AW := List.mem_of_getElem? (i := 208) rfl
theorem k_209 : (.fieldLink "TaleMachineModel" 62 "TaleMachineModel" "next" "[I" : Cond) ∈ AW := List.mem_of_getElem? (i := 209) rfl
theorem k_210 : (.fieldLink "TaleMachineModel" 65 "TaleMachineModel" "saidKind" "[I" : Cond) ∈ AW := List.mem_of_getElem? (i := 210) rfl
theorem k_211 : (.fieldLink "TaleMachineModel" 68 "TaleMachineModel" "saidNumber" "[I" : Cond) ∈ AW := List.mem_of_getElem? (i := 211) rfl
theorem k_212 : (.code y_TM_object prog_1_method_3_code 5 (some .int) : Cond) ∈ AW := List.mem_of_getElem? (i := 212) rfl
theorem k_213 : (.methodLink "TaleMachineLaw" 7 y_TM_object : Cond) ∈ AW := List.mem_of_getElem? (i := 213) rfl
theorem k_214 : (.instanceMethod y_TM_object : Cond) ∈ AW := List.mem_of_getElem? (i := 214) rfl
theorem k_215 : (.selects "TaleMachine" y_TM_object y_TM_object : Cond) ∈ AW := List.mem_of_getElem? (i := 215) rfl
theorem k_216 : (.classLink "TaleMachineLaw" 13 "java/lang/IllegalArgumentException" : Cond) ∈ AW := List.mem_of_getElem? (i := 216) rfl
theorem k_217 : (.code y_TM_property prog_1_method_4_code 5 none : Cond) ∈ AW := List.mem_of_getElem? (i := 217) rfl
theorem k_218 : (.methodLink "TaleMachineLaw" 17 y_TM_property : Cond) ∈ AW := List.mem_of_getElem? (i := 218) rfl
theorem k_219 : (.instanceMethod y_TM_property : Cond) ∈ AW := List.mem_of_getElem? (i := 219) rfl
theorem k_220 : (.selects "TaleMachine" y_TM_property y_TM_property : Cond) ∈ AW := List.mem_of_getElem? (i := 220) rfl
theorem k_221 : (.classLink "TaleMachineLaw" 21 "java/util/NoSuchElementException" : Cond) ∈ AW := List.mem_of_getElem? (i := 221) rfl
theorem k_222 : (.code y_TM_begin prog_1_method_5_code 4 none : Cond) ∈ AW := List.mem_of_getElem? (i := 222) rfl
theorem k_223 : (.methodLink "TaleMachineLaw" 23 y_TM_begin : Cond) ∈ AW := List.mem_of_getElem? (i := 223) rfl
theorem k_224 : (.instanceMethod y_TM_begin : Cond) ∈ AW := List.mem_of_getElem? (i := 224) rfl
theorem k_225 : (.selects "TaleMachine" y_TM_begin y_TM_begin : Cond) ∈ AW := List.mem_of_getElem? (i := 225) rfl
theorem k_226 : (.code y_TM_stack prog_1_method_9_code 3 (some .int) : Cond) ∈ AW := List.mem_of_getElem? (i := 226) rfl
theorem k_227 : (.methodLink "TaleMachineLaw" 27 y_TM_stack : Cond) ∈ AW := List.mem_of_getElem? (i := 227) rfl
theorem k_228 : (.instanceMethod y_TM_stack : Cond) ∈ AW := List.mem_of_getElem? (i := 228) rfl
theorem k_229 : (.selects "TaleMachine" y_TM_stack y_TM_stack : Cond) ∈ AW := List.mem_of_getElem? (i := 229) rfl
theorem k_230 : (.code y_TM_said prog_1_method_11_code 3 (some .int) : Cond) ∈ AW := List.mem_of_getElem? (i := 230) rfl
theorem k_231 : (.methodLink "TaleMachineLaw" 35 y_TM_said : Cond) ∈ AW := List.mem_of_getElem? (i := 231) rfl
theorem k_232 : (.instanceMethod y_TM_said : Cond) ∈ AW := List.mem_of_getElem? (i := 232) rfl
theorem k_233 : (.selects "TaleMachine" y_TM_said y_TM_said : Cond) ∈ AW := List.mem_of_getElem? (i := 233) rfl
theorem k_234 : (.code y_TM_has prog_1_method_12_code 5 (some .int) : Cond) ∈ AW := List.mem_of_getElem? (i := 234) rfl
theorem k_235 : (.methodLink "TaleMachineLaw" 38 y_TM_has : Cond) ∈ AW := List.mem_of_getElem? (i := 235) rfl
theorem k_236 : (.instanceMethod y_TM_has : Cond) ∈ AW := List.mem_of_getElem? (i := 236) rfl
theorem k_237 : (.selects "TaleMachine" y_TM_has y_TM_has : Cond) ∈ AW := List.mem_of_getElem? (i := 237) rfl
theorem k_238 : (.code y_TM_show prog_1_method_10_code 2 (some .int) : Cond) ∈ AW := List.mem_of_getElem? (i := 238) rfl
theorem k_239 : (.methodLink "TaleMachineLaw" 31 y_TM_show : Cond) ∈ AW := List.mem_of_getElem? (i := 239) rfl
theorem k_240 : (.instanceMethod y_TM_show : Cond) ∈ AW := List.mem_of_getElem? (i := 240) rfl
theorem k_241 : (.selects "TaleMachine" y_TM_show y_TM_show : Cond) ∈ AW := List.mem_of_getElem? (i := 241) rfl
theorem k_242 : (.lays "TaleMachine$Frame" "TaleMachine$Frame" "method" "I" : Cond) ∈ AW := List.mem_of_getElem? (i := 242) rfl
theorem k_243 : (.lays "TaleMachine$Frame" "TaleMachine$Frame" "beginning" "I" : Cond) ∈ AW := List.mem_of_getElem? (i := 243) rfl
theorem k_244 : (.lays "TaleMachine$Frame" "TaleMachine$Frame" "self" "I" : Cond) ∈ AW := List.mem_of_getElem? (i := 244) rfl
theorem k_245 : (.lays "TaleMachine$Frame" "TaleMachine$Frame" "found" "I" : Cond) ∈ AW := List.mem_of_getElem? (i := 245) rfl
theorem k_246 : (.lays "TaleMachine$Frame" "TaleMachine$Frame" "place" "I" : Cond) ∈ AW := List.mem_of_getElem? (i := 246) rfl
theorem k_247 : (.lays "TaleMachine$Frame" "TaleMachine$Frame" "behind" "I" : Cond) ∈ AW := List.mem_of_getElem? (i := 247) rfl
theorem k_248 : (.lays "TaleMachine$Frame" "TaleMachine$Frame" "base" "I" : Cond) ∈ AW := List.mem_of_getElem? (i := 248) rfl
theorem k_249 : (.lays "TaleMachine$Frame" "TaleMachine$Frame" "floor" "I" : Cond) ∈ AW := List.mem_of_getElem? (i := 249) rfl
theorem k_250 : (.laysFinal "TaleMachine$History" "TaleMachine$History" "pointed" "[LTaleMachine$State;" : Cond) ∈ AW := List.mem_of_getElem? (i := 250) rfl
theorem k_251 : (.laysFinal "TaleMachine$History" "TaleMachine$History" "saved" "[LTaleMachine$State;" : Cond) ∈ AW := List.mem_of_getElem? (i := 251) rfl
theorem k_252 : (.laysFinal "TaleMachine$History" "TaleMachine$History" "isSaved" "[Z" : Cond) ∈ AW := List.mem_of_getElem? (i := 252) rfl
theorem k_253 : (.lays "TaleMachine$History" "TaleMachine$History" "points" "I" : Cond) ∈ AW := List.mem_of_getElem? (i := 253) rfl
theorem k_254 : (.laysFinal "TaleMachine$Script" "TaleMachine$Script" "bytes" "[I" : Cond) ∈ AW := List.mem_of_getElem? (i := 254) rfl
theorem k_255 : (.lays "TaleMachine$Script" "TaleMachine$Script" "length" "I" : Cond) ∈ AW := List.mem_of_getElem? (i := 255) rfl
theorem k_256 : (.laysFinal "TaleMachine$State" "TaleMachine$State" "kinds" "[I" : Cond) ∈ AW := List.mem_of_getElem? (i := 256) rfl
theorem k_257 : (.laysFinal "TaleMachine$State" "TaleMachine$State" "ints" "[I" : Cond) ∈ AW := List.mem_of_getElem? (i := 257) rfl
theorem k_258 : (.laysFinal "TaleMachine$State" "TaleMachine$State" "parents" "[I" : Cond) ∈ AW := List.mem_of_getElem? (i := 258) rfl
theorem k_259 : (.laysFinal "TaleMachine$Teller" "TaleMachine$Teller" "script" "LTaleMachine$Script;" : Cond) ∈ AW := List.mem_of_getElem? (i := 259) rfl
theorem k_260 : (.laysFinal "TaleMachine$Teller" "TaleMachine$Teller" "world" "LTaleMachine$World;" : Cond) ∈ AW := List.mem_of_getElem? (i := 260) rfl
theorem k_261 : (.laysFinal "TaleMachine$Teller" "TaleMachine$Teller" "history" "LTaleMachine$History;" : Cond) ∈ AW := List.mem_of_getElem? (i := 261) rfl
theorem k_262 : (.laysFinal "TaleMachine$Teller" "TaleMachine$Teller" "frames" "[LTaleMachine$Frame;" : Cond) ∈ AW := List.mem_of_getElem? (i := 262) rfl
theorem k_263 : (.laysFinal "TaleMachine$Teller" "TaleMachine$Teller" "values" "LTaleMachine$Values;" : Cond) ∈ AW := List.mem_of_getElem? (i := 263) rfl
theorem k_264 : (.laysFinal "TaleMachine$Teller" "TaleMachine$Teller" "sayings" "LTaleMachine$Values;" : Cond) ∈ AW := List.mem_of_getElem? (i := 264) rfl
theorem k_265 : (.laysFinal "TaleMachine$Teller" "TaleMachine$Teller" "result" "LTaleMachine$Values;" : Cond) ∈ AW := List.mem_of_getElem? (i := 265) rfl
theorem k_266 : (.lays "TaleMachine$Teller" "TaleMachine$Teller" "depth" "I" : Cond) ∈ AW := List.mem_of_getElem? (i := 266) rfl
theorem k_267 : (.lays "TaleMachine$Teller" "TaleMachine$Teller" "outcome" "I" : Cond) ∈ AW := List.mem_of_getElem? (i := 267) rfl
theorem k_268 : (.laysFinal "TaleMachine$Values" "TaleMachine$Values" "kinds" "[I" : Cond) ∈ AW := List.mem_of_getElem? (i := 268) rfl
theorem k_269 : (.laysFinal "TaleMachine$Values" "TaleMachine$Values" "ints" "[I" : Cond) ∈ AW := List.mem_of_getElem? (i := 269) rfl
theorem k_270 : (.lays "TaleMachine$Values" "TaleMachine$Values" "count" "I" : Cond) ∈ AW := List.mem_of_getElem? (i := 270) rfl
theorem k_271 : (.laysFinal "TaleMachine$World" "TaleMachine$World" "now" "LTaleMachine$State;" : Cond) ∈ AW := List.mem_of_getElem? (i := 271) rfl
theorem k_272 : (.lays "TaleMachine$World" "TaleMachine$World" "fixed" "I" : Cond) ∈ AW := List.mem_of_getElem? (i := 272) rfl
theorem k_273 : (.laysFinal "TaleMachine$World" "TaleMachine$World" "fixedLines" "[I" : Cond) ∈ AW := List.mem_of_getElem? (i := 273) rfl
theorem k_274 : (.laysFinal "TaleMachine$World" "TaleMachine$World" "fixedLengths" "[I" : Cond) ∈ AW := List.mem_of_getElem? (i := 274) rfl
theorem k_275 : (.laysFinal "TaleMachine$World" "TaleMachine$World" "line" "[I" : Cond) ∈ AW := List.mem_of_getElem? (i := 275) rfl
theorem k_276 : (.lays "TaleMachine$World" "TaleMachine$World" "length" "I" : Cond) ∈ AW := List.mem_of_getElem? (i := 276) rfl
theorem k_277 : (.laysFinal "TaleMachine$World" "TaleMachine$World" "reached" "[I" : Cond) ∈ AW := List.mem_of_getElem? (i := 277) rfl
theorem k_278 : (.lays "TaleMachine$World" "TaleMachine$World" "reachedCount" "I" : Cond) ∈ AW := List.mem_of_getElem? (i := 278) rfl
theorem k_279 : (.lays "TaleMachine$World" "TaleMachine$World" "reachedBits" "I" : Cond) ∈ AW := List.mem_of_getElem? (i := 279) rfl
theorem k_280 : (.laysFinal "TaleMachine" "TaleMachine" "script" "LTaleMachine$Script;" : Cond) ∈ AW := List.mem_of_getElem? (i := 280) rfl
theorem k_281 : (.laysFinal "TaleMachine" "TaleMachine" "world" "LTaleMachine$World;" : Cond) ∈ AW := List.mem_of_getElem? (i := 281) rfl
theorem k_282 : (.laysFinal "TaleMachine" "TaleMachine" "history" "LTaleMachine$History;" : Cond) ∈ AW := List.mem_of_getElem? (i := 282) rfl
theorem k_283 : (.laysFinal "TaleMachine" "TaleMachine" "teller" "LTaleMachine$Teller;" : Cond) ∈ AW := List.mem_of_getElem? (i := 283) rfl
theorem k_284 : (.lays "TaleMachineModel" "TaleMachineModel" "code" "I" : Cond) ∈ AW := List.mem_of_getElem? (i := 284) rfl
theorem k_285 : (.laysFinal "TaleMachineModel" "TaleMachineModel" "bytes" "[I" : Cond) ∈ AW := List.mem_of_getElem? (i := 285) rfl
theorem k_286 : (.lays "TaleMachineModel" "TaleMachineModel" "size" "I" : Cond) ∈ AW := List.mem_of_getElem? (i := 286) rfl
theorem k_287 : (.laysFinal "TaleMachineModel" "TaleMachineModel" "w" "[I" : Cond) ∈ AW := List.mem_of_getElem? (i := 287) rfl
theorem k_288 : (.lays "TaleMachineModel" "TaleMachineModel" "fixed" "I" : Cond) ∈ AW := List.mem_of_getElem? (i := 288) rfl
theorem k_289 : (.lays "TaleMachineModel" "TaleMachineModel" "points" "I" : Cond) ∈ AW := List.mem_of_getElem? (i := 289) rfl
theorem k_290 : (.laysFinal "TaleMachineModel" "TaleMachineModel" "saved" "[Z" : Cond) ∈ AW := List.mem_of_getElem? (i := 290) rfl
theorem k_291 : (.lays "TaleMachineModel" "TaleMachineModel" "length" "I" : Cond) ∈ AW := List.mem_of_getElem? (i := 291) rfl
theorem k_292 : (.laysFinal "TaleMachineModel" "TaleMachineModel" "line" "[I" : Cond) ∈ AW := List.mem_of_getElem? (i := 292) rfl
theorem k_293 : (.laysFinal "TaleMachineModel" "TaleMachineModel" "met" "[Z" : Cond) ∈ AW := List.mem_of_getElem? (i := 293) rfl
theorem k_294 : (.laysFinal "TaleMachineModel" "TaleMachineModel" "waiting" "[I" : Cond) ∈ AW := List.mem_of_getElem? (i := 294) rfl
theorem k_295 : (.laysFinal "TaleMachineModel" "TaleMachineModel" "nextParent" "[I" : Cond) ∈ AW := List.mem_of_getElem? (i := 295) rfl
theorem k_296 : (.lays "TaleMachineModel" "TaleMachineModel" "height" "I" : Cond) ∈ AW := List.mem_of_getElem? (i := 296) rfl
theorem k_297 : (.laysFinal "TaleMachineModel" "TaleMachineModel" "kind" "[I" : Cond) ∈ AW := List.mem_of_getElem? (i := 297) rfl
theorem k_298 : (.laysFinal "TaleMachineModel" "TaleMachineModel" "number" "[I" : Cond) ∈ AW := List.mem_of_getElem? (i := 298) rfl
theorem k_299 : (.lays "TaleMachineModel" "TaleMachineModel" "depth" "I" : Cond) ∈ AW := List.mem_of_getElem? (i := 299) rfl
theorem k_300 : (.laysFinal "TaleMachineModel" "TaleMachineModel" "begin" "[I" : Cond) ∈ AW := List.mem_of_getElem? (i := 300) rfl
theorem k_301 : (.laysFinal "TaleMachineModel" "TaleMachineModel" "table" "[I" : Cond) ∈ AW := List.mem_of_getElem? (i := 301) rfl
theorem k_302 : (.laysFinal "TaleMachineModel" "TaleMachineModel" "handlers" "[I" : Cond) ∈ AW := List.mem_of_getElem? (i := 302) rfl
theorem k_303 : (.laysFinal "TaleMachineModel" "TaleMachineModel" "base" "[I" : Cond) ∈ AW := List.mem_of_getElem? (i := 303) rfl
theorem k_304 : (.laysFinal "TaleMachineModel" "TaleMachineModel" "locals" "[I" : Cond) ∈ AW := List.mem_of_getElem? (i := 304) rfl
theorem k_305 : (.laysFinal "TaleMachineModel" "TaleMachineModel" "self" "[I" : Cond) ∈ AW := List.mem_of_getElem? (i := 305) rfl
theorem k_306 : (.laysFinal "TaleMachineModel" "TaleMachineModel" "found" "[I" : Cond) ∈ AW := List.mem_of_getElem? (i := 306) rfl
theorem k_307 : (.laysFinal "TaleMachineModel" "TaleMachineModel" "place" "[I" : Cond) ∈ AW := List.mem_of_getElem? (i := 307) rfl
theorem k_308 : (.laysFinal "TaleMachineModel" "TaleMachineModel" "next" "[I" : Cond) ∈ AW := List.mem_of_getElem? (i := 308) rfl
theorem k_309 : (.lays "TaleMachineModel" "TaleMachineModel" "said" "I" : Cond) ∈ AW := List.mem_of_getElem? (i := 309) rfl
theorem k_310 : (.laysFinal "TaleMachineModel" "TaleMachineModel" "saidKind" "[I" : Cond) ∈ AW := List.mem_of_getElem? (i := 310) rfl
theorem k_311 : (.laysFinal "TaleMachineModel" "TaleMachineModel" "saidNumber" "[I" : Cond) ∈ AW := List.mem_of_getElem? (i := 311) rfl
theorem k_312 : (.lays "TaleMachineModel" "TaleMachineModel" "resultKind" "I" : Cond) ∈ AW := List.mem_of_getElem? (i := 312) rfl
theorem k_313 : (.lays "TaleMachineModel" "TaleMachineModel" "resultNumber" "I" : Cond) ∈ AW := List.mem_of_getElem? (i := 313) rfl
theorem k_314 : (.lays "TaleMachineModel" "TaleMachineModel" "ended" "I" : Cond) ∈ AW := List.mem_of_getElem? (i := 314) rfl
theorem k_315 : (.code y_TM_code prog_1_method_2_code 3 (some .boolean) : Cond) ∈ AW := List.mem_of_getElem? (i := 315) rfl
theorem k_316 : (.methodLink "TaleMachineLaw" 45 y_TM_code : Cond) ∈ AW := List.mem_of_getElem? (i := 316) rfl
theorem k_317 : (.instanceMethod y_TM_code : Cond) ∈ AW := List.mem_of_getElem? (i := 317) rfl
theorem k_318 : (.selects "TaleMachine" y_TM_code y_TM_code : Cond) ∈ AW := List.mem_of_getElem? (i := 318) rfl
theorem k_319 : (.code y_Model_code prog_10_method_16_code 4 (some .boolean) : Cond) ∈ AW := List.mem_of_getElem? (i := 319) rfl
theorem k_320 : (.methodLink "TaleMachineLaw" 49 y_Model_code : Cond) ∈ AW := List.mem_of_getElem? (i := 320) rfl
theorem k_321 : (.instanceMethod y_Model_code : Cond) ∈ AW := List.mem_of_getElem? (i := 321) rfl
theorem k_322 : (.selects "TaleMachineModel" y_Model_code y_Model_code : Cond) ∈ AW := List.mem_of_getElem? (i := 322) rfl
theorem k_323 : (.codeWith y_Law_object method_3_code 6 (some .int) [(0, 12, 15, 13), (0, 12, 19, 15)] : Cond) ∈ AW := List.mem_of_getElem? (i := 323) rfl
theorem k_324 : (.methodLink "TaleMachineLaw" 50 y_Law_object : Cond) ∈ AW := List.mem_of_getElem? (i := 324) rfl
theorem k_325 : (.static y_Law_object : Cond) ∈ AW := List.mem_of_getElem? (i := 325) rfl
theorem k_326 : (.initialized "TaleMachineLaw" : Cond) ∈ AW := List.mem_of_getElem? (i := 326) rfl
theorem k_327 : (.code y_Model_object prog_10_method_18_code 6 (some .int) : Cond) ∈ AW := List.mem_of_getElem? (i := 327) rfl
theorem k_328 : (.methodLink "TaleMachineLaw" 55 y_Model_object : Cond) ∈ AW := List.mem_of_getElem? (i := 328) rfl
theorem k_329 : (.instanceMethod y_Model_object : Cond) ∈ AW := List.mem_of_getElem? (i := 329) rfl
theorem k_330 : (.selects "TaleMachineModel" y_Model_object y_Model_object : Cond) ∈ AW := List.mem_of_getElem? (i := 330) rfl
theorem k_331 : (.code y_Model_thrown prog_10_method_2_code 1 (some .int) : Cond) ∈ AW := List.mem_of_getElem? (i := 331) rfl
theorem k_332 : (.methodLink "TaleMachineLaw" 56 y_Model_thrown : Cond) ∈ AW := List.mem_of_getElem? (i := 332) rfl
theorem k_333 : (.instanceMethod y_Model_thrown : Cond) ∈ AW := List.mem_of_getElem? (i := 333) rfl
theorem k_334 : (.selects "TaleMachineModel" y_Model_thrown y_Model_thrown : Cond) ∈ AW := List.mem_of_getElem? (i := 334) rfl
theorem k_335 : (.codeWith y_Law_property method_4_code 6 (some .int) [(0, 9, 12, 21), (0, 9, 16, 13), (0, 9, 20, 15)] : Cond) ∈ AW := List.mem_of_getElem? (i := 335) rfl
theorem k_336 : (.methodLink "TaleMachineLaw" 60 y_Law_property : Cond) ∈ AW := List.mem_of_getElem? (i := 336) rfl
theorem k_337 : (.static y_Law_property : Cond) ∈ AW := List.mem_of_getElem? (i := 337) rfl
theorem k_338 : (.code y_Model_property prog_10_method_19_code 6 none : Cond) ∈ AW := List.mem_of_getElem? (i := 338) rfl
theorem k_339 : (.methodLink "TaleMachineLaw" 63 y_Model_property : Cond) ∈ AW := List.mem_of_getElem? (i := 339) rfl
theorem k_340 : (.instanceMethod y_Model_property : Cond) ∈ AW := List.mem_of_getElem? (i := 340) rfl
theorem k_341 : (.selects "TaleMachineModel" y_Model_property y_Model_property : Cond) ∈ AW := List.mem_of_getElem? (i := 341) rfl
theorem k_342 : (.codeWith y_Law_begin method_5_code 4 (some .int) [(0, 6, 9, 21), (0, 6, 12, 13), (0, 6, 15, 15)] : Cond) ∈ AW := List.mem_of_getElem? (i := 342) rfl
theorem k_343 : (.methodLink "TaleMachineLaw" 64 y_Law_begin : Cond) ∈ AW := List.mem_of_getElem? (i := 343) rfl
theorem k_344 : (.static y_Law_begin : Cond) ∈ AW := List.mem_of_getElem? (i := 344) rfl
theorem k_345 : (.code y_Model_begin prog_10_method_24_code 5 none : Cond) ∈ AW := List.mem_of_getElem? (i := 345) rfl
theorem k_346 : (.methodLink "TaleMachineLaw" 67 y_Model_begin : Cond) ∈ AW := List.mem_of_getElem? (i := 346) rfl
theorem k_347 : (.instanceMethod y_Model_begin : Cond) ∈ AW := List.mem_of_getElem? (i := 347) rfl
theorem k_348 : (.selects "TaleMachineModel" y_Model_begin y_Model_begin : Cond) ∈ AW := List.mem_of_getElem? (i := 348) rfl
theorem k_349 : (.code y_TM_run prog_1_method_6_code 4 (some .int) : Cond) ∈ AW := List.mem_of_getElem? (i := 349) rfl
theorem k_350 : (.methodLink "TaleMachineLaw" 68 y_TM_run : Cond) ∈ AW := List.mem_of_getElem? (i := 350) rfl
theorem k_351 : (.instanceMethod y_TM_run : Cond) ∈ AW := List.mem_of_getElem? (i := 351) rfl
theorem k_352 : (.selects "TaleMachine" y_TM_run y_TM_run : Cond) ∈ AW := List.mem_of_getElem? (i := 352) rfl
theorem k_353 : (.code y_Model_run prog_10_method_26_code 3 (some .int) : Cond) ∈ AW := List.mem_of_getElem? (i := 353) rfl
theorem k_354 : (.methodLink "TaleMachineLaw" 71 y_Model_run : Cond) ∈ AW := List.mem_of_getElem? (i := 354) rfl
theorem k_355 : (.instanceMethod y_Model_run : Cond) ∈ AW := List.mem_of_getElem? (i := 355) rfl
theorem k_356 : (.selects "TaleMachineModel" y_Model_run y_Model_run : Cond) ∈ AW := List.mem_of_getElem? (i := 356) rfl
theorem k_357 : (.code y_TM_stop prog_1_method_7_code 1 (some .boolean) : Cond) ∈ AW := List.mem_of_getElem? (i := 357) rfl
theorem k_358 : (.methodLink "TaleMachineLaw" 72 y_TM_stop : Cond) ∈ AW := List.mem_of_getElem? (i := 358) rfl
theorem k_359 : (.instanceMethod y_TM_stop : Cond) ∈ AW := List.mem_of_getElem? (i := 359) rfl
theorem k_360 : (.selects "TaleMachine" y_TM_stop y_TM_stop : Cond) ∈ AW := List.mem_of_getElem? (i := 360) rfl
theorem k_361 : (.code y_Model_stop prog_10_method_27_code 1 (some .boolean) : Cond) ∈ AW := List.mem_of_getElem? (i := 361) rfl
theorem k_362 : (.methodLink "TaleMachineLaw" 76 y_Model_stop : Cond) ∈ AW := List.mem_of_getElem? (i := 362) rfl
theorem k_363 : (.instanceMethod y_Model_stop : Cond) ∈ AW := List.mem_of_getElem? (i := 363) rfl
theorem k_364 : (.selects "TaleMachineModel" y_Model_stop y_Model_stop : Cond) ∈ AW := List.mem_of_getElem? (i := 364) rfl
theorem k_365 : (.code y_TM_collect prog_1_method_8_code 1 (some .int) : Cond) ∈ AW := List.mem_of_getElem? (i := 365) rfl
theorem k_366 : (.methodLink "TaleMachineLaw" 77 y_TM_collect : Cond) ∈ AW := List.mem_of_getElem? (i := 366) rfl
theorem k_367 : (.instanceMethod y_TM_collect : Cond) ∈ AW := List.mem_of_getElem? (i := 367) rfl
theorem k_368 : (.selects "TaleMachine" y_TM_collect y_TM_collect : Cond) ∈ AW := List.mem_of_getElem? (i := 368) rfl
theorem k_369 : (.code y_Model_collect prog_10_method_50_code 6 (some .int) : Cond) ∈ AW := List.mem_of_getElem? (i := 369) rfl
theorem k_370 : (.methodLink "TaleMachineLaw" 80 y_Model_collect : Cond) ∈ AW := List.mem_of_getElem? (i := 370) rfl
theorem k_371 : (.instanceMethod y_Model_collect : Cond) ∈ AW := List.mem_of_getElem? (i := 371) rfl
theorem k_372 : (.selects "TaleMachineModel" y_Model_collect y_Model_collect : Cond) ∈ AW := List.mem_of_getElem? (i := 372) rfl
theorem k_373 : (.codeWith y_Law_stack method_6_code 5 (some .int) [(0, 10, 13, 21)] : Cond) ∈ AW := List.mem_of_getElem? (i := 373) rfl
theorem k_374 : (.methodLink "TaleMachineLaw" 81 y_Law_stack : Cond) ∈ AW := List.mem_of_getElem? (i := 374) rfl
theorem k_375 : (.static y_Law_stack : Cond) ∈ AW := List.mem_of_getElem? (i := 375) rfl
theorem k_376 : (.code y_Model_stack prog_10_method_51_code 3 (some .int) : Cond) ∈ AW := List.mem_of_getElem? (i := 376) rfl
theorem k_377 : (.methodLink "TaleMachineLaw" 84 y_Model_stack : Cond) ∈ AW := List.mem_of_getElem? (i := 377) rfl
theorem k_378 : (.instanceMethod y_Model_stack : Cond) ∈ AW := List.mem_of_getElem? (i := 378) rfl
theorem k_379 : (.selects "TaleMachineModel" y_Model_stack y_Model_stack : Cond) ∈ AW := List.mem_of_getElem? (i := 379) rfl
theorem k_380 : (.codeWith y_Law_show method_7_code 4 (some .int) [(0, 9, 12, 21)] : Cond) ∈ AW := List.mem_of_getElem? (i := 380) rfl
theorem k_381 : (.methodLink "TaleMachineLaw" 85 y_Law_show : Cond) ∈ AW := List.mem_of_getElem? (i := 381) rfl
theorem k_382 : (.static y_Law_show : Cond) ∈ AW := List.mem_of_getElem? (i := 382) rfl
theorem k_383 : (.code y_Model_show prog_10_method_52_code 4 (some .int) : Cond) ∈ AW := List.mem_of_getElem? (i := 383) rfl
theorem k_384 : (.methodLink "TaleMachineLaw" 88 y_Model_show : Cond) ∈ AW := List.mem_of_getElem? (i := 384) rfl
theorem k_385 : (.instanceMethod y_Model_show : Cond) ∈ AW := List.mem_of_getElem? (i := 385) rfl
theorem k_386 : (.selects "TaleMachineModel" y_Model_show y_Model_show : Cond) ∈ AW := List.mem_of_getElem? (i := 386) rfl
theorem k_387 : (.codeWith y_Law_said method_8_code 5 (some .int) [(0, 10, 13, 21)] : Cond) ∈ AW := List.mem_of_getElem? (i := 387) rfl
theorem k_388 : (.methodLink "TaleMachineLaw" 89 y_Law_said : Cond) ∈ AW := List.mem_of_getElem? (i := 388) rfl
theorem k_389 : (.static y_Law_said : Cond) ∈ AW := List.mem_of_getElem? (i := 389) rfl
theorem k_390 : (.code y_Model_said prog_10_method_53_code 3 (some .int) : Cond) ∈ AW := List.mem_of_getElem? (i := 390) rfl
theorem k_391 : (.methodLink "TaleMachineLaw" 91 y_Model_said : Cond) ∈ AW := List.mem_of_getElem? (i := 391) rfl
theorem k_392 : (.instanceMethod y_Model_said : Cond) ∈ AW := List.mem_of_getElem? (i := 392) rfl
theorem k_393 : (.selects "TaleMachineModel" y_Model_said y_Model_said : Cond) ∈ AW := List.mem_of_getElem? (i := 393) rfl
theorem k_394 : (.codeWith y_Law_has method_9_code 6 (some .int) [(0, 12, 15, 21)] : Cond) ∈ AW := List.mem_of_getElem? (i := 394) rfl
theorem k_395 : (.methodLink "TaleMachineLaw" 92 y_Law_has : Cond) ∈ AW := List.mem_of_getElem? (i := 395) rfl
theorem k_396 : (.static y_Law_has : Cond) ∈ AW := List.mem_of_getElem? (i := 396) rfl
theorem k_397 : (.code y_Model_has prog_10_method_54_code 5 (some .int) : Cond) ∈ AW := List.mem_of_getElem? (i := 397) rfl
theorem k_398 : (.methodLink "TaleMachineLaw" 94 y_Model_has : Cond) ∈ AW := List.mem_of_getElem? (i := 398) rfl
theorem k_399 : (.instanceMethod y_Model_has : Cond) ∈ AW := List.mem_of_getElem? (i := 399) rfl
theorem k_400 : (.selects "TaleMachineModel" y_Model_has y_Model_has : Cond) ∈ AW := List.mem_of_getElem? (i := 400) rfl
theorem k_401 : (.code y_TM_isOf prog_1_method_13_code 3 (some .boolean) : Cond) ∈ AW := List.mem_of_getElem? (i := 401) rfl
theorem k_402 : (.methodLink "TaleMachineLaw" 95 y_TM_isOf : Cond) ∈ AW := List.mem_of_getElem? (i := 402) rfl
theorem k_403 : (.instanceMethod y_TM_isOf : Cond) ∈ AW := List.mem_of_getElem? (i := 403) rfl
theorem k_404 : (.selects "TaleMachine" y_TM_isOf y_TM_isOf : Cond) ∈ AW := List.mem_of_getElem? (i := 404) rfl
theorem k_405 : (.code y_Model_isOf prog_10_method_55_code 3 (some .boolean) : Cond) ∈ AW := List.mem_of_getElem? (i := 405) rfl
theorem k_406 : (.methodLink "TaleMachineLaw" 98 y_Model_isOf : Cond) ∈ AW := List.mem_of_getElem? (i := 406) rfl
theorem k_407 : (.instanceMethod y_Model_isOf : Cond) ∈ AW := List.mem_of_getElem? (i := 407) rfl
theorem k_408 : (.selects "TaleMachineModel" y_Model_isOf y_Model_isOf : Cond) ∈ AW := List.mem_of_getElem? (i := 408) rfl
theorem k_409 : (.classLink "TaleMachineLaw" 8 "TaleMachine" : Cond) ∈ AW := List.mem_of_getElem? (i := 409) rfl
theorem k_410 : (.instantiable "TaleMachine" 4 : Cond) ∈ AW := List.mem_of_getElem? (i := 410) rfl
theorem k_411 : (.code y_TM_init prog_1_method_1_code 1 none : Cond) ∈ AW := List.mem_of_getElem? (i := 411) rfl
theorem k_412 : (.methodLink "TaleMachineLaw" 41 y_TM_init : Cond) ∈ AW := List.mem_of_getElem? (i := 412) rfl
theorem k_413 : (.instanceMethod y_TM_init : Cond) ∈ AW := List.mem_of_getElem? (i := 413) rfl
theorem k_414 : (.classLink "TaleMachineLaw" 42 "TaleMachineModel" : Cond) ∈ AW := List.mem_of_getElem? (i := 414) rfl
theorem k_415 : (.instantiable "TaleMachineModel" 31 : Cond) ∈ AW := List.mem_of_getElem? (i := 415) rfl
theorem k_416 : (.code y_Model_init prog_10_method_1_code 1 none : Cond) ∈ AW := List.mem_of_getElem? (i := 416) rfl
theorem k_417 : (.methodLink "TaleMachineLaw" 44 y_Model_init : Cond) ∈ AW := List.mem_of_getElem? (i := 417) rfl
theorem k_418 : (.instanceMethod y_Model_init : Cond) ∈ AW := List.mem_of_getElem? (i := 418) rfl
theorem k_419 : (.arrayClass .long : Cond) ∈ AW := List.mem_of_getElem? (i := 419) rfl
theorem AW_all : AW.all goodWord = true := by decide +kernel
theorem in_Frame : ∀ w ∈ u_ws "TaleMachine$Frame" F_Frame 8, w ∈ AW := by
  show ∀ w ∈ ([.lays "TaleMachine$Frame" "TaleMachine$Frame" "method" "I", .lays "TaleMachine$Frame" "TaleMachine$Frame" "beginning" "I", .lays "TaleMachine$Frame" "TaleMachine$Frame" "self" "I", .lays "TaleMachine$Frame" "TaleMachine$Frame" "found" "I", .lays "TaleMachine$Frame" "TaleMachine$Frame" "place" "I", .lays "TaleMachine$Frame" "TaleMachine$Frame" "behind" "I", .lays "TaleMachine$Frame" "TaleMachine$Frame" "base" "I", .lays "TaleMachine$Frame" "TaleMachine$Frame" "floor" "I"] : List Cond), w ∈ AW
  exact List.forall_mem_cons.mpr ⟨k_242, List.forall_mem_cons.mpr ⟨k_243, List.forall_mem_cons.mpr ⟨k_244, List.forall_mem_cons.mpr ⟨k_245, List.forall_mem_cons.mpr ⟨k_246, List.forall_mem_cons.mpr ⟨k_247, List.forall_mem_cons.mpr ⟨k_248, List.forall_mem_cons.mpr ⟨k_249, fun _ h => absurd h List.not_mem_nil⟩⟩⟩⟩⟩⟩⟩⟩
theorem in_History : ∀ w ∈ u_ws "TaleMachine$History" F_History 4, w ∈ AW := by
  show ∀ w ∈ ([.laysFinal "TaleMachine$History" "TaleMachine$History" "pointed" "[LTaleMachine$State;", .laysFinal "TaleMachine$History" "TaleMachine$History" "saved" "[LTaleMachine$State;", .laysFinal "TaleMachine$History" "TaleMachine$History" "isSaved" "[Z", .lays "TaleMachine$History" "TaleMachine$History" "points" "I"] : List Cond), w ∈ AW
  exact List.forall_mem_cons.mpr ⟨k_250, List.forall_mem_cons.mpr ⟨k_251, List.forall_mem_cons.mpr ⟨k_252, List.forall_mem_cons.mpr ⟨k_253, fun _ h => absurd h List.not_mem_nil⟩⟩⟩⟩
theorem in_Script : ∀ w ∈ u_ws "TaleMachine$Script" F_Script 2, w ∈ AW := by
  show ∀ w ∈ ([.laysFinal "TaleMachine$Script" "TaleMachine$Script" "bytes" "[I", .lays "TaleMachine$Script" "TaleMachine$Script" "length" "I"] : List Cond), w ∈ AW
  exact List.forall_mem_cons.mpr ⟨k_254, List.forall_mem_cons.mpr ⟨k_255, fun _ h => absurd h List.not_mem_nil⟩⟩
theorem in_State : ∀ w ∈ u_ws "TaleMachine$State" F_State 3, w ∈ AW := by
  show ∀ w ∈ ([.laysFinal "TaleMachine$State" "TaleMachine$State" "kinds" "[I", .laysFinal "TaleMachine$State" "TaleMachine$State" "ints" "[I", .laysFinal "TaleMachine$State" "TaleMachine$State" "parents" "[I"] : List Cond), w ∈ AW
  exact List.forall_mem_cons.mpr ⟨k_256, List.forall_mem_cons.mpr ⟨k_257, List.forall_mem_cons.mpr ⟨k_258, fun _ h => absurd h List.not_mem_nil⟩⟩⟩
theorem in_Teller : ∀ w ∈ u_ws "TaleMachine$Teller" F_Teller 9, w ∈ AW := by
  show ∀ w ∈ ([.laysFinal "TaleMachine$Teller" "TaleMachine$Teller" "script" "LTaleMachine$Script;", .laysFinal "TaleMachine$Teller" "TaleMachine$Teller" "world" "LTaleMachine$World;", .laysFinal "TaleMachine$Teller" "TaleMachine$Teller" "history" "LTaleMachine$History;", .laysFinal "TaleMachine$Teller" "TaleMachine$Teller" "frames" "[LTaleMachine$Frame;", .laysFinal "TaleMachine$Teller" "TaleMachine$Teller" "values" "LTaleMachine$Values;", .laysFinal "TaleMachine$Teller" "TaleMachine$Teller" "sayings" "LTaleMachine$Values;", .laysFinal "TaleMachine$Teller" "TaleMachine$Teller" "result" "LTaleMachine$Values;", .lays "TaleMachine$Teller" "TaleMachine$Teller" "depth" "I", .lays "TaleMachine$Teller" "TaleMachine$Teller" "outcome" "I"] : List Cond), w ∈ AW
  exact List.forall_mem_cons.mpr ⟨k_259, List.forall_mem_cons.mpr ⟨k_260, List.forall_mem_cons.mpr ⟨k_261, List.forall_mem_cons.mpr ⟨k_262, List.forall_mem_cons.mpr ⟨k_263, List.forall_mem_cons.mpr ⟨k_264, List.forall_mem_cons.mpr ⟨k_265, List.forall_mem_cons.mpr ⟨k_266, List.forall_mem_cons.mpr ⟨k_267, fun _ h => absurd h List.not_mem_nil⟩⟩⟩⟩⟩⟩⟩⟩⟩
theorem in_Values : ∀ w ∈ u_ws "TaleMachine$Values" F_Values 3, w ∈ AW := by
  show ∀ w ∈ ([.laysFinal "TaleMachine$Values" "TaleMachine$Values" "kinds" "[I", .laysFinal "TaleMachine$Values" "TaleMachine$Values" "ints" "[I", .lays "TaleMachine$Values" "TaleMachine$Values" "count" "I"] : List Cond), w ∈ AW
  exact List.forall_mem_cons.mpr ⟨k_268, List.forall_mem_cons.mpr ⟨k_269, List.forall_mem_cons.mpr ⟨k_270, fun _ h => absurd h List.not_mem_nil⟩⟩⟩
theorem in_World : ∀ w ∈ u_ws "TaleMachine$World" F_World 9, w ∈ AW := by
  show ∀ w ∈ ([.laysFinal "TaleMachine$World" "TaleMachine$World" "now" "LTaleMachine$State;", .lays "TaleMachine$World" "TaleMachine$World" "fixed" "I", .laysFinal "TaleMachine$World" "TaleMachine$World" "fixedLines" "[I", .laysFinal "TaleMachine$World" "TaleMachine$World" "fixedLengths" "[I", .laysFinal "TaleMachine$World" "TaleMachine$World" "line" "[I", .lays "TaleMachine$World" "TaleMachine$World" "length" "I", .laysFinal "TaleMachine$World" "TaleMachine$World" "reached" "[I", .lays "TaleMachine$World" "TaleMachine$World" "reachedCount" "I", .lays "TaleMachine$World" "TaleMachine$World" "reachedBits" "I"] : List Cond), w ∈ AW
  exact List.forall_mem_cons.mpr ⟨k_271, List.forall_mem_cons.mpr ⟨k_272, List.forall_mem_cons.mpr ⟨k_273, List.forall_mem_cons.mpr ⟨k_274, List.forall_mem_cons.mpr ⟨k_275, List.forall_mem_cons.mpr ⟨k_276, List.forall_mem_cons.mpr ⟨k_277, List.forall_mem_cons.mpr ⟨k_278, List.forall_mem_cons.mpr ⟨k_279, fun _ h => absurd h List.not_mem_nil⟩⟩⟩⟩⟩⟩⟩⟩⟩
theorem in_TM : ∀ w ∈ u_ws "TaleMachine" F_TM 4, w ∈ AW := by
  show ∀ w ∈ ([.laysFinal "TaleMachine" "TaleMachine" "script" "LTaleMachine$Script;", .laysFinal "TaleMachine" "TaleMachine" "world" "LTaleMachine$World;", .laysFinal "TaleMachine" "TaleMachine" "history" "LTaleMachine$History;", .laysFinal "TaleMachine" "TaleMachine" "teller" "LTaleMachine$Teller;"] : List Cond), w ∈ AW
  exact List.forall_mem_cons.mpr ⟨k_280, List.forall_mem_cons.mpr ⟨k_281, List.forall_mem_cons.mpr ⟨k_282, List.forall_mem_cons.mpr ⟨k_283, fun _ h => absurd h List.not_mem_nil⟩⟩⟩⟩
theorem in_Model : ∀ w ∈ u_ws "TaleMachineModel" F_Model 31, w ∈ AW := by
  show ∀ w ∈ ([.lays "TaleMachineModel" "TaleMachineModel" "code" "I", .laysFinal "TaleMachineModel" "TaleMachineModel" "bytes" "[I", .lays "TaleMachineModel" "TaleMachineModel" "size" "I", .laysFinal "TaleMachineModel" "TaleMachineModel" "w" "[I", .lays "TaleMachineModel" "TaleMachineModel" "fixed" "I", .lays "TaleMachineModel" "TaleMachineModel" "points" "I", .laysFinal "TaleMachineModel" "TaleMachineModel" "saved" "[Z", .lays "TaleMachineModel" "TaleMachineModel" "length" "I", .laysFinal "TaleMachineModel" "TaleMachineModel" "line" "[I", .laysFinal "TaleMachineModel" "TaleMachineModel" "met" "[Z", .laysFinal "TaleMachineModel" "TaleMachineModel" "waiting" "[I", .laysFinal "TaleMachineModel" "TaleMachineModel" "nextParent" "[I", .lays "TaleMachineModel" "TaleMachineModel" "height" "I", .laysFinal "TaleMachineModel" "TaleMachineModel" "kind" "[I", .laysFinal "TaleMachineModel" "TaleMachineModel" "number" "[I", .lays "TaleMachineModel" "TaleMachineModel" "depth" "I", .laysFinal "TaleMachineModel" "TaleMachineModel" "begin" "[I", .laysFinal "TaleMachineModel" "TaleMachineModel" "table" "[I", .laysFinal "TaleMachineModel" "TaleMachineModel" "handlers" "[I", .laysFinal "TaleMachineModel" "TaleMachineModel" "base" "[I", .laysFinal "TaleMachineModel" "TaleMachineModel" "locals" "[I", .laysFinal "TaleMachineModel" "TaleMachineModel" "self" "[I", .laysFinal "TaleMachineModel" "TaleMachineModel" "found" "[I", .laysFinal "TaleMachineModel" "TaleMachineModel" "place" "[I", .laysFinal "TaleMachineModel" "TaleMachineModel" "next" "[I", .lays "TaleMachineModel" "TaleMachineModel" "said" "I", .laysFinal "TaleMachineModel" "TaleMachineModel" "saidKind" "[I", .laysFinal "TaleMachineModel" "TaleMachineModel" "saidNumber" "[I", .lays "TaleMachineModel" "TaleMachineModel" "resultKind" "I", .lays "TaleMachineModel" "TaleMachineModel" "resultNumber" "I", .lays "TaleMachineModel" "TaleMachineModel" "ended" "I"] : List Cond), w ∈ AW
  exact List.forall_mem_cons.mpr ⟨k_284, List.forall_mem_cons.mpr ⟨k_285, List.forall_mem_cons.mpr ⟨k_286, List.forall_mem_cons.mpr ⟨k_287, List.forall_mem_cons.mpr ⟨k_288, List.forall_mem_cons.mpr ⟨k_289, List.forall_mem_cons.mpr ⟨k_290, List.forall_mem_cons.mpr ⟨k_291, List.forall_mem_cons.mpr ⟨k_292, List.forall_mem_cons.mpr ⟨k_293, List.forall_mem_cons.mpr ⟨k_294, List.forall_mem_cons.mpr ⟨k_295, List.forall_mem_cons.mpr ⟨k_296, List.forall_mem_cons.mpr ⟨k_297, List.forall_mem_cons.mpr ⟨k_298, List.forall_mem_cons.mpr ⟨k_299, List.forall_mem_cons.mpr ⟨k_300, List.forall_mem_cons.mpr ⟨k_301, List.forall_mem_cons.mpr ⟨k_302, List.forall_mem_cons.mpr ⟨k_303, List.forall_mem_cons.mpr ⟨k_304, List.forall_mem_cons.mpr ⟨k_305, List.forall_mem_cons.mpr ⟨k_306, List.forall_mem_cons.mpr ⟨k_307, List.forall_mem_cons.mpr ⟨k_308, List.forall_mem_cons.mpr ⟨k_309, List.forall_mem_cons.mpr ⟨k_310, List.forall_mem_cons.mpr ⟨k_311, List.forall_mem_cons.mpr ⟨k_312, List.forall_mem_cons.mpr ⟨k_313, List.forall_mem_cons.mpr ⟨k_314, fun _ h => absurd h List.not_mem_nil⟩⟩⟩⟩⟩⟩⟩⟩⟩⟩⟩⟩⟩⟩⟩⟩⟩⟩⟩⟩⟩⟩⟩⟩⟩⟩⟩⟩⟩⟩⟩
set_option maxRecDepth 100000 in
set_option maxHeartbeats 4000000 in
theorem AW_tbl {args : Array Value} {s : State} (hts : ∀ w ∈ lw_tbl, w.before args s = true) : ∀ w ∈ AW, w.before args s = true := by
  have h0 : ∀ w ∈ AW_0, w.before args s = true := by
    refine List.forall_mem_cons.mpr ⟨hts _ (List.mem_append_right _ (List.mem_of_getElem? (i := 755) rfl)), List.forall_mem_cons.mpr ⟨hts _ (List.mem_append_right _ (List.mem_of_getElem? (i := 859) rfl)), List.forall_mem_cons.mpr ⟨hts _ (List.mem_append_right _ (List.mem_of_getElem? (i := 857) rfl)), List.forall_mem_cons.mpr ⟨hts _ (List.mem_append_right _ (List.mem_of_getElem? (i := 858) rfl)), List.forall_mem_cons.mpr ⟨hts _ (List.mem_append_right _ (List.mem_of_getElem? (i := 10) rfl)), List.forall_mem_cons.mpr ⟨hts _ (List.mem_append_right _ (List.mem_of_getElem? (i := 758) rfl)), List.forall_mem_cons.mpr ⟨hts _ (List.mem_append_right _ (List.mem_of_getElem? (i := 871) rfl)), List.forall_mem_cons.mpr ⟨hts _ (List.mem_append_right _ (List.mem_of_getElem? (i := 868) rfl)), List.forall_mem_cons.mpr ⟨hts _ (List.mem_append_right _ (List.mem_of_getElem? (i := 870) rfl)), List.forall_mem_cons.mpr ⟨hts _ (List.mem_append_left _ (List.mem_of_getElem? (i := 37) rfl)), List.forall_mem_cons.mpr ⟨hts _ (List.mem_append_right _ (List.mem_of_getElem? (i := 879) rfl)), List.forall_mem_cons.mpr ⟨hts _ (List.mem_append_right _ (List.mem_of_getElem? (i := 876) rfl)), List.forall_mem_cons.mpr ⟨hts _ (List.mem_append_right _ (List.mem_of_getElem? (i := 878) rfl)), List.forall_mem_cons.mpr ⟨hts _ (List.mem_append_left _ (List.mem_of_getElem? (i := 39) rfl)), List.forall_mem_cons.mpr ⟨hts _ (List.mem_append_right _ (List.mem_of_getElem? (i := 757) rfl)), List.forall_mem_cons.mpr ⟨hts _ (List.mem_append_right _ (List.mem_of_getElem? (i := 756) rfl)), List.forall_mem_cons.mpr ⟨hts _ (List.mem_append_right _ (List.mem_of_getElem? (i := 867) rfl)), List.forall_mem_cons.mpr ⟨hts _ (List.mem_append_right _ (List.mem_of_getElem? (i := 864) rfl)), List.forall_mem_cons.mpr ⟨hts _ (List.mem_append_right _ (List.mem_of_getElem? (i := 866) rfl)), List.forall_mem_cons.mpr ⟨hts _ (List.mem_append_left _ (List.mem_of_getElem? (i := 36) rfl)), List.forall_mem_cons.mpr ⟨hts _ (List.mem_append_right _ (List.mem_of_getElem? (i := 785) rfl)), List.forall_mem_cons.mpr ⟨hts _ (List.mem_append_right _ (List.mem_of_getElem? (i := 759) rfl)), List.forall_mem_cons.mpr ⟨hts _ (List.mem_append_right _ (List.mem_of_getElem? (i := 875) rfl)), List.forall_mem_cons.mpr ⟨hts _ (List.mem_append_right _ (List.mem_of_getElem? (i := 872) rfl)), List.forall_mem_cons.mpr ⟨hts _ (List.mem_append_right _ (List.mem_of_getElem? (i := 874) rfl)), List.forall_mem_cons.mpr ⟨hts _ (List.mem_append_left _ (List.mem_of_getElem? (i := 38) rfl)), List.forall_mem_cons.mpr ⟨hts _ (List.mem_append_right _ (List.mem_of_getElem? (i := 761) rfl)), List.forall_mem_cons.mpr ⟨hts _ (List.mem_append_right _ (List.mem_of_getElem? (i := 783) rfl)), List.forall_mem_cons.mpr ⟨hts _ (List.mem_append_right _ (List.mem_of_getElem? (i := 784) rfl)), List.forall_mem_cons.mpr ⟨hts _ (List.mem_append_right _ (List.mem_of_getElem? (i := 1034) rfl)), List.forall_mem_cons.mpr ⟨hts _ (List.mem_append_right _ (List.mem_of_getElem? (i := 1031) rfl)), List.forall_mem_cons.mpr ⟨hts _ (List.mem_append_right _ (List.mem_of_getElem? (i := 1033) rfl)), List.forall_mem_cons.mpr ⟨hts _ (List.mem_append_left _ (List.mem_of_getElem? (i := 72) rfl)), List.forall_mem_cons.mpr ⟨hts _ (List.mem_append_right _ (List.mem_of_getElem? (i := 767) rfl)), List.forall_mem_cons.mpr ⟨hts _ (List.mem_append_right _ (List.mem_of_getElem? (i := 770) rfl)), List.forall_mem_cons.mpr ⟨hts _ (List.mem_append_right _ (List.mem_of_getElem? (i := 1046) rfl)), List.forall_mem_cons.mpr ⟨hts _ (List.mem_append_right _ (List.mem_of_getElem? (i := 1043) rfl)), List.forall_mem_cons.mpr ⟨hts _ (List.mem_append_right _ (List.mem_of_getElem? (i := 1045) rfl)), List.forall_mem_cons.mpr ⟨hts _ (List.mem_append_left _ (List.mem_of_getElem? (i := 74) rfl)), List.forall_mem_cons.mpr ⟨hts _ (List.mem_append_right _ (List.mem_of_getElem? (i := 780) rfl)), List.forall_mem_cons.mpr ⟨hts _ (List.mem_append_right _ (List.mem_of_getElem? (i := 760) rfl)), List.forall_mem_cons.mpr ⟨hts _ (List.mem_append_right _ (List.mem_of_getElem? (i := 32) rfl)), List.forall_mem_cons.mpr ⟨hts _ (List.mem_append_right _ (List.mem_of_getElem? (i := 25) rfl)), List.forall_mem_cons.mpr ⟨hts _ (List.mem_append_right _ (List.mem_of_getElem? (i := 26) rfl)), List.forall_mem_cons.mpr ⟨hts _ (List.mem_append_right _ (List.mem_of_getElem? (i := 40) rfl)), List.forall_mem_cons.mpr ⟨hts _ (List.mem_append_right _ (List.mem_of_getElem? (i := 33) rfl)), List.forall_mem_cons.mpr ⟨hts _ (List.mem_append_right _ (List.mem_of_getElem? (i := 157) rfl)), List.forall_mem_cons.mpr ⟨hts _ (List.mem_append_right _ (List.mem_of_getElem? (i := 136) rfl)), List.forall_mem_cons.mpr ⟨hts _ (List.mem_append_right _ (List.mem_of_getElem? (i := 137) rfl)), List.forall_mem_cons.mpr ⟨hts _ (List.mem_append_right _ (List.mem_of_getElem? (i := 140) rfl)), List.forall_mem_cons.mpr ⟨hts _ (List.mem_append_right _ (List.mem_of_getElem? (i := 52) rfl)), List.forall_mem_cons.mpr ⟨hts _ (List.mem_append_right _ (List.mem_of_getElem? (i := 56) rfl)), List.forall_mem_cons.mpr ⟨hts _ (List.mem_append_right _ (List.mem_of_getElem? (i := 58) rfl)), List.forall_mem_cons.mpr ⟨hts _ (List.mem_append_right _ (List.mem_of_getElem? (i := 60) rfl)), List.forall_mem_cons.mpr ⟨hts _ (List.mem_append_right _ (List.mem_of_getElem? (i := 55) rfl)), List.forall_mem_cons.mpr ⟨hts _ (List.mem_append_right _ (List.mem_of_getElem? (i := 53) rfl)), List.forall_mem_cons.mpr ⟨hts _ (List.mem_append_right _ (List.mem_of_getElem? (i := 54) rfl)), List.forall_mem_cons.mpr ⟨hts _ (List.mem_append_right _ (List.mem_of_getElem? (i := 5) rfl)), List.forall_mem_cons.mpr ⟨hts _ (List.mem_append_right _ (List.mem_of_getElem? (i := 46) rfl)), List.forall_mem_cons.mpr ⟨hts _ (List.mem_append_right _ (List.mem_of_getElem? (i := 47) rfl)), fun _ h => absurd h List.not_mem_nil⟩⟩⟩⟩⟩⟩⟩⟩⟩⟩⟩⟩⟩⟩⟩⟩⟩⟩⟩⟩⟩⟩⟩⟩⟩⟩⟩⟩⟩⟩⟩⟩⟩⟩⟩⟩⟩⟩⟩⟩⟩⟩⟩⟩⟩⟩⟩⟩⟩⟩⟩⟩⟩⟩⟩⟩⟩⟩⟩⟩
  have h1 : ∀ w ∈ AW_1, w.before args s = true := by
    refine List.forall_mem_cons.mpr ⟨hts _ (List.mem_append_right _ (List.mem_of_getElem? (i := 48) rfl)), List.forall_mem_cons.mpr ⟨hts _ (List.mem_append_right _ (List.mem_of_getElem? (i := 4) rfl)), List.forall_mem_cons.mpr ⟨hts _ (List.mem_append_right _ (List.mem_of_getElem? (i := 51) rfl)), List.forall_mem_cons.mpr ⟨hts _ (List.mem_append_right _ (List.mem_of_getElem? (i := 49) rfl)), List.forall_mem_cons.mpr ⟨hts _ (List.mem_append_right _ (List.mem_of_getElem? (i := 50) rfl)), List.forall_mem_cons.mpr ⟨hts _ (List.mem_append_right _ (List.mem_of_getElem? (i := 69) rfl)), List.forall_mem_cons.mpr ⟨hts _ (List.mem_append_right _ (List.mem_of_getElem? (i := 73) rfl)), List.forall_mem_cons.mpr ⟨hts _ (List.mem_append_right _ (List.mem_of_getElem? (i := 74) rfl)), List.forall_mem_cons.mpr ⟨hts _ (List.mem_append_right _ (List.mem_of_getElem? (i := 75) rfl)), List.forall_mem_cons.mpr ⟨hts _ (List.mem_append_right _ (List.mem_of_getElem? (i := 77) rfl)), List.forall_mem_cons.mpr ⟨hts _ (List.mem_append_right _ (List.mem_of_getElem? (i := 104) rfl)), List.forall_mem_cons.mpr ⟨hts _ (List.mem_append_right _ (List.mem_of_getElem? (i := 105) rfl)), List.forall_mem_cons.mpr ⟨hts _ (List.mem_append_right _ (List.mem_of_getElem? (i := 108) rfl)), List.forall_mem_cons.mpr ⟨hts _ (List.mem_append_right _ (List.mem_of_getElem? (i := 109) rfl)), List.forall_mem_cons.mpr ⟨hts _ (List.mem_append_right _ (List.mem_of_getElem? (i := 122) rfl)), List.forall_mem_cons.mpr ⟨hts _ (List.mem_append_right _ (List.mem_of_getElem? (i := 110) rfl)), List.forall_mem_cons.mpr ⟨hts _ (List.mem_append_right _ (List.mem_of_getElem? (i := 107) rfl)), List.forall_mem_cons.mpr ⟨hts _ (List.mem_append_right _ (List.mem_of_getElem? (i := 128) rfl)), List.forall_mem_cons.mpr ⟨hts _ (List.mem_append_right _ (List.mem_of_getElem? (i := 129) rfl)), List.forall_mem_cons.mpr ⟨hts _ (List.mem_append_right _ (List.mem_of_getElem? (i := 188) rfl)), List.forall_mem_cons.mpr ⟨hts _ (List.mem_append_right _ (List.mem_of_getElem? (i := 131) rfl)), List.forall_mem_cons.mpr ⟨hts _ (List.mem_append_right _ (List.mem_of_getElem? (i := 132) rfl)), List.forall_mem_cons.mpr ⟨hts _ (List.mem_append_right _ (List.mem_of_getElem? (i := 8) rfl)), List.forall_mem_cons.mpr ⟨hts _ (List.mem_append_right _ (List.mem_of_getElem? (i := 135) rfl)), List.forall_mem_cons.mpr ⟨hts _ (List.mem_append_right _ (List.mem_of_getElem? (i := 133) rfl)), List.forall_mem_cons.mpr ⟨hts _ (List.mem_append_right _ (List.mem_of_getElem? (i := 134) rfl)), List.forall_mem_cons.mpr ⟨hts _ (List.mem_append_right _ (List.mem_of_getElem? (i := 189) rfl)), List.forall_mem_cons.mpr ⟨hts _ (List.mem_append_right _ (List.mem_of_getElem? (i := 191) rfl)), List.forall_mem_cons.mpr ⟨hts _ (List.mem_append_right _ (List.mem_of_getElem? (i := 193) rfl)), List.forall_mem_cons.mpr ⟨hts _ (List.mem_append_right _ (List.mem_of_getElem? (i := 197) rfl)), List.forall_mem_cons.mpr ⟨hts _ (List.mem_append_right _ (List.mem_of_getElem? (i := 185) rfl)), List.forall_mem_cons.mpr ⟨hts _ (List.mem_append_right _ (List.mem_of_getElem? (i := 186) rfl)), List.forall_mem_cons.mpr ⟨hts _ (List.mem_append_right _ (List.mem_of_getElem? (i := 187) rfl)), List.forall_mem_cons.mpr ⟨hts _ (List.mem_append_right _ (List.mem_of_getElem? (i := 153) rfl)), List.forall_mem_cons.mpr ⟨hts _ (List.mem_append_right _ (List.mem_of_getElem? (i := 9) rfl)), List.forall_mem_cons.mpr ⟨hts _ (List.mem_append_right _ (List.mem_of_getElem? (i := 156) rfl)), List.forall_mem_cons.mpr ⟨hts _ (List.mem_append_right _ (List.mem_of_getElem? (i := 155) rfl)), List.forall_mem_cons.mpr ⟨hts _ (List.mem_append_right _ (List.mem_of_getElem? (i := 24) rfl)), List.forall_mem_cons.mpr ⟨hts _ (List.mem_append_right _ (List.mem_of_getElem? (i := 27) rfl)), List.forall_mem_cons.mpr ⟨hts _ (List.mem_append_right _ (List.mem_of_getElem? (i := 28) rfl)), List.forall_mem_cons.mpr ⟨hts _ (List.mem_append_right _ (List.mem_of_getElem? (i := 2) rfl)), List.forall_mem_cons.mpr ⟨hts _ (List.mem_append_right _ (List.mem_of_getElem? (i := 31) rfl)), List.forall_mem_cons.mpr ⟨hts _ (List.mem_append_right _ (List.mem_of_getElem? (i := 30) rfl)), List.forall_mem_cons.mpr ⟨hts _ (List.mem_append_right _ (List.mem_of_getElem? (i := 218) rfl)), List.forall_mem_cons.mpr ⟨hts _ (List.mem_append_right _ (List.mem_of_getElem? (i := 41) rfl)), List.forall_mem_cons.mpr ⟨hts _ (List.mem_append_right _ (List.mem_of_getElem? (i := 42) rfl)), List.forall_mem_cons.mpr ⟨hts _ (List.mem_append_right _ (List.mem_of_getElem? (i := 3) rfl)), List.forall_mem_cons.mpr ⟨hts _ (List.mem_append_right _ (List.mem_of_getElem? (i := 45) rfl)), List.forall_mem_cons.mpr ⟨hts _ (List.mem_append_right _ (List.mem_of_getElem? (i := 44) rfl)), List.forall_mem_cons.mpr ⟨hts _ (List.mem_append_right _ (List.mem_of_getElem? (i := 219) rfl)), List.forall_mem_cons.mpr ⟨hts _ (List.mem_append_right _ (List.mem_of_getElem? (i := 99) rfl)), List.forall_mem_cons.mpr ⟨hts _ (List.mem_append_right _ (List.mem_of_getElem? (i := 100) rfl)), List.forall_mem_cons.mpr ⟨hts _ (List.mem_append_right _ (List.mem_of_getElem? (i := 6) rfl)), List.forall_mem_cons.mpr ⟨hts _ (List.mem_append_right _ (List.mem_of_getElem? (i := 103) rfl)), List.forall_mem_cons.mpr ⟨hts _ (List.mem_append_right _ (List.mem_of_getElem? (i := 101) rfl)), List.forall_mem_cons.mpr ⟨hts _ (List.mem_append_right _ (List.mem_of_getElem? (i := 102) rfl)), List.forall_mem_cons.mpr ⟨hts _ (List.mem_append_right _ (List.mem_of_getElem? (i := 220) rfl)), List.forall_mem_cons.mpr ⟨hts _ (List.mem_append_right _ (List.mem_of_getElem? (i := 123) rfl)), List.forall_mem_cons.mpr ⟨hts _ (List.mem_append_right _ (List.mem_of_getElem? (i := 124) rfl)), List.forall_mem_cons.mpr ⟨hts _ (List.mem_append_right _ (List.mem_of_getElem? (i := 7) rfl)), fun _ h => absurd h List.not_mem_nil⟩⟩⟩⟩⟩⟩⟩⟩⟩⟩⟩⟩⟩⟩⟩⟩⟩⟩⟩⟩⟩⟩⟩⟩⟩⟩⟩⟩⟩⟩⟩⟩⟩⟩⟩⟩⟩⟩⟩⟩⟩⟩⟩⟩⟩⟩⟩⟩⟩⟩⟩⟩⟩⟩⟩⟩⟩⟩⟩⟩
  have h2 : ∀ w ∈ AW_2, w.before args s = true := by
    refine List.forall_mem_cons.mpr ⟨hts _ (List.mem_append_right _ (List.mem_of_getElem? (i := 127) rfl)), List.forall_mem_cons.mpr ⟨hts _ (List.mem_append_right _ (List.mem_of_getElem? (i := 125) rfl)), List.forall_mem_cons.mpr ⟨hts _ (List.mem_append_right _ (List.mem_of_getElem? (i := 126) rfl)), List.forall_mem_cons.mpr ⟨hts _ (List.mem_append_right _ (List.mem_of_getElem? (i := 221) rfl)), List.forall_mem_cons.mpr ⟨hts _ (List.mem_append_right _ (List.mem_of_getElem? (i := 34) rfl)), List.forall_mem_cons.mpr ⟨hts _ (List.mem_append_right _ (List.mem_of_getElem? (i := 238) rfl)), List.forall_mem_cons.mpr ⟨hts _ (List.mem_append_right _ (List.mem_of_getElem? (i := 235) rfl)), List.forall_mem_cons.mpr ⟨hts _ (List.mem_append_right _ (List.mem_of_getElem? (i := 236) rfl)), List.forall_mem_cons.mpr ⟨hts _ (List.mem_append_right _ (List.mem_of_getElem? (i := 237) rfl)), List.forall_mem_cons.mpr ⟨hts _ (List.mem_append_right _ (List.mem_of_getElem? (i := 71) rfl)), List.forall_mem_cons.mpr ⟨hts _ (List.mem_append_right _ (List.mem_of_getElem? (i := 296) rfl)), List.forall_mem_cons.mpr ⟨hts _ (List.mem_append_right _ (List.mem_of_getElem? (i := 293) rfl)), List.forall_mem_cons.mpr ⟨hts _ (List.mem_append_right _ (List.mem_of_getElem? (i := 294) rfl)), List.forall_mem_cons.mpr ⟨hts _ (List.mem_append_right _ (List.mem_of_getElem? (i := 295) rfl)), List.forall_mem_cons.mpr ⟨hts _ (List.mem_append_right _ (List.mem_of_getElem? (i := 61) rfl)), List.forall_mem_cons.mpr ⟨hts _ (List.mem_append_right _ (List.mem_of_getElem? (i := 78) rfl)), List.forall_mem_cons.mpr ⟨hts _ (List.mem_append_right _ (List.mem_of_getElem? (i := 79) rfl)), List.forall_mem_cons.mpr ⟨hts _ (List.mem_append_right _ (List.mem_of_getElem? (i := 292) rfl)), List.forall_mem_cons.mpr ⟨hts _ (List.mem_append_right _ (List.mem_of_getElem? (i := 479) rfl)), List.forall_mem_cons.mpr ⟨hts _ (List.mem_append_right _ (List.mem_of_getElem? (i := 290) rfl)), List.forall_mem_cons.mpr ⟨hts _ (List.mem_append_right _ (List.mem_of_getElem? (i := 291) rfl)), List.forall_mem_cons.mpr ⟨hts _ (List.mem_append_right _ (List.mem_of_getElem? (i := 144) rfl)), List.forall_mem_cons.mpr ⟨hts _ (List.mem_append_right _ (List.mem_of_getElem? (i := 195) rfl)), List.forall_mem_cons.mpr ⟨hts _ (List.mem_append_right _ (List.mem_of_getElem? (i := 529) rfl)), List.forall_mem_cons.mpr ⟨hts _ (List.mem_append_right _ (List.mem_of_getElem? (i := 526) rfl)), List.forall_mem_cons.mpr ⟨hts _ (List.mem_append_right _ (List.mem_of_getElem? (i := 527) rfl)), List.forall_mem_cons.mpr ⟨hts _ (List.mem_append_right _ (List.mem_of_getElem? (i := 528) rfl)), List.forall_mem_cons.mpr ⟨hts _ (List.mem_append_right _ (List.mem_of_getElem? (i := 533) rfl)), List.forall_mem_cons.mpr ⟨hts _ (List.mem_append_right _ (List.mem_of_getElem? (i := 530) rfl)), List.forall_mem_cons.mpr ⟨hts _ (List.mem_append_right _ (List.mem_of_getElem? (i := 531) rfl)), List.forall_mem_cons.mpr ⟨hts _ (List.mem_append_right _ (List.mem_of_getElem? (i := 532) rfl)), List.forall_mem_cons.mpr ⟨hts _ (List.mem_append_right _ (List.mem_of_getElem? (i := 546) rfl)), List.forall_mem_cons.mpr ⟨hts _ (List.mem_append_right _ (List.mem_of_getElem? (i := 543) rfl)), List.forall_mem_cons.mpr ⟨hts _ (List.mem_append_right _ (List.mem_of_getElem? (i := 544) rfl)), List.forall_mem_cons.mpr ⟨hts _ (List.mem_append_right _ (List.mem_of_getElem? (i := 545) rfl)), List.forall_mem_cons.mpr ⟨hts _ (List.mem_append_right _ (List.mem_of_getElem? (i := 478) rfl)), List.forall_mem_cons.mpr ⟨hts _ (List.mem_append_right _ (List.mem_of_getElem? (i := 557) rfl)), List.forall_mem_cons.mpr ⟨hts _ (List.mem_append_right _ (List.mem_of_getElem? (i := 476) rfl)), List.forall_mem_cons.mpr ⟨hts _ (List.mem_append_right _ (List.mem_of_getElem? (i := 477) rfl)), List.forall_mem_cons.mpr ⟨hts _ (List.mem_append_right _ (List.mem_of_getElem? (i := 198) rfl)), List.forall_mem_cons.mpr ⟨hts _ (List.mem_append_right _ (List.mem_of_getElem? (i := 243) rfl)), List.forall_mem_cons.mpr ⟨hts _ (List.mem_append_right _ (List.mem_of_getElem? (i := 244) rfl)), List.forall_mem_cons.mpr ⟨hts _ (List.mem_append_right _ (List.mem_of_getElem? (i := 18) rfl)), List.forall_mem_cons.mpr ⟨hts _ (List.mem_append_right _ (List.mem_of_getElem? (i := 245) rfl)), List.forall_mem_cons.mpr ⟨hts _ (List.mem_append_right _ (List.mem_of_getElem? (i := 76) rfl)), List.forall_mem_cons.mpr ⟨hts _ (List.mem_append_right _ (List.mem_of_getElem? (i := 72) rfl)), List.forall_mem_cons.mpr ⟨hts _ (List.mem_append_right _ (List.mem_of_getElem? (i := 655) rfl)), List.forall_mem_cons.mpr ⟨hts _ (List.mem_append_right _ (List.mem_of_getElem? (i := 652) rfl)), List.forall_mem_cons.mpr ⟨hts _ (List.mem_append_right _ (List.mem_of_getElem? (i := 653) rfl)), List.forall_mem_cons.mpr ⟨hts _ (List.mem_append_right _ (List.mem_of_getElem? (i := 654) rfl)), List.forall_mem_cons.mpr ⟨hts _ (List.mem_append_right _ (List.mem_of_getElem? (i := 659) rfl)), List.forall_mem_cons.mpr ⟨hts _ (List.mem_append_right _ (List.mem_of_getElem? (i := 656) rfl)), List.forall_mem_cons.mpr ⟨hts _ (List.mem_append_right _ (List.mem_of_getElem? (i := 657) rfl)), List.forall_mem_cons.mpr ⟨hts _ (List.mem_append_right _ (List.mem_of_getElem? (i := 658) rfl)), List.forall_mem_cons.mpr ⟨hts _ (List.mem_append_right _ (List.mem_of_getElem? (i := 196) rfl)), List.forall_mem_cons.mpr ⟨hts _ (List.mem_append_right _ (List.mem_of_getElem? (i := 112) rfl)), List.forall_mem_cons.mpr ⟨hts _ (List.mem_append_right _ (List.mem_of_getElem? (i := 732) rfl)), List.forall_mem_cons.mpr ⟨hts _ (List.mem_append_right _ (List.mem_of_getElem? (i := 729) rfl)), List.forall_mem_cons.mpr ⟨hts _ (List.mem_append_right _ (List.mem_of_getElem? (i := 730) rfl)), List.forall_mem_cons.mpr ⟨hts _ (List.mem_append_right _ (List.mem_of_getElem? (i := 731) rfl)), fun _ h => absurd h List.not_mem_nil⟩⟩⟩⟩⟩⟩⟩⟩⟩⟩⟩⟩⟩⟩⟩⟩⟩⟩⟩⟩⟩⟩⟩⟩⟩⟩⟩⟩⟩⟩⟩⟩⟩⟩⟩⟩⟩⟩⟩⟩⟩⟩⟩⟩⟩⟩⟩⟩⟩⟩⟩⟩⟩⟩⟩⟩⟩⟩⟩⟩
  have h3 : ∀ w ∈ AW_3, w.before args s = true := by
    refine List.forall_mem_cons.mpr ⟨hts _ (List.mem_append_right _ (List.mem_of_getElem? (i := 192) rfl)), List.forall_mem_cons.mpr ⟨hts _ (List.mem_append_right _ (List.mem_of_getElem? (i := 145) rfl)), List.forall_mem_cons.mpr ⟨hts _ (List.mem_append_right _ (List.mem_of_getElem? (i := 567) rfl)), List.forall_mem_cons.mpr ⟨hts _ (List.mem_append_right _ (List.mem_of_getElem? (i := 568) rfl)), List.forall_mem_cons.mpr ⟨hts _ (List.mem_append_right _ (List.mem_of_getElem? (i := 14) rfl)), List.forall_mem_cons.mpr ⟨hts _ (List.mem_append_right _ (List.mem_of_getElem? (i := 672) rfl)), List.forall_mem_cons.mpr ⟨hts _ (List.mem_append_right _ (List.mem_of_getElem? (i := 673) rfl)), List.forall_mem_cons.mpr ⟨hts _ (List.mem_append_right _ (List.mem_of_getElem? (i := 16) rfl)), List.forall_mem_cons.mpr ⟨hts _ (List.mem_append_right _ (List.mem_of_getElem? (i := 190) rfl)), List.forall_mem_cons.mpr ⟨hts _ (List.mem_append_right _ (List.mem_of_getElem? (i := 718) rfl)), List.forall_mem_cons.mpr ⟨hts _ (List.mem_append_right _ (List.mem_of_getElem? (i := 716) rfl)), List.forall_mem_cons.mpr ⟨hts _ (List.mem_append_right _ (List.mem_of_getElem? (i := 717) rfl)), List.forall_mem_cons.mpr ⟨hts _ (List.mem_append_right _ (List.mem_of_getElem? (i := 1) rfl)), List.forall_mem_cons.mpr ⟨hts _ (List.mem_append_right _ (List.mem_of_getElem? (i := 194) rfl)), List.forall_mem_cons.mpr ⟨hts _ (List.mem_append_right _ (List.mem_of_getElem? (i := 754) rfl)), List.forall_mem_cons.mpr ⟨hts _ (List.mem_append_right _ (List.mem_of_getElem? (i := 763) rfl)), List.forall_mem_cons.mpr ⟨hts _ (List.mem_append_right _ (List.mem_of_getElem? (i := 764) rfl)), List.forall_mem_cons.mpr ⟨hts _ (List.mem_append_right _ (List.mem_of_getElem? (i := 765) rfl)), List.forall_mem_cons.mpr ⟨hts _ (List.mem_append_right _ (List.mem_of_getElem? (i := 766) rfl)), List.forall_mem_cons.mpr ⟨hts _ (List.mem_append_right _ (List.mem_of_getElem? (i := 768) rfl)), List.forall_mem_cons.mpr ⟨hts _ (List.mem_append_right _ (List.mem_of_getElem? (i := 769) rfl)), List.forall_mem_cons.mpr ⟨hts _ (List.mem_append_right _ (List.mem_of_getElem? (i := 771) rfl)), List.forall_mem_cons.mpr ⟨hts _ (List.mem_append_right _ (List.mem_of_getElem? (i := 772) rfl)), List.forall_mem_cons.mpr ⟨hts _ (List.mem_append_right _ (List.mem_of_getElem? (i := 773) rfl)), List.forall_mem_cons.mpr ⟨hts _ (List.mem_append_right _ (List.mem_of_getElem? (i := 774) rfl)), List.forall_mem_cons.mpr ⟨hts _ (List.mem_append_right _ (List.mem_of_getElem? (i := 775) rfl)), List.forall_mem_cons.mpr ⟨hts _ (List.mem_append_right _ (List.mem_of_getElem? (i := 776) rfl)), List.forall_mem_cons.mpr ⟨hts _ (List.mem_append_right _ (List.mem_of_getElem? (i := 777) rfl)), List.forall_mem_cons.mpr ⟨hts _ (List.mem_append_right _ (List.mem_of_getElem? (i := 778) rfl)), List.forall_mem_cons.mpr ⟨hts _ (List.mem_append_right _ (List.mem_of_getElem? (i := 779) rfl)), List.forall_mem_cons.mpr ⟨hts _ (List.mem_append_right _ (List.mem_of_getElem? (i := 781) rfl)), List.forall_mem_cons.mpr ⟨hts _ (List.mem_append_right _ (List.mem_of_getElem? (i := 782) rfl)), List.forall_mem_cons.mpr ⟨hts _ (List.mem_append_right _ (List.mem_of_getElem? (i := 566) rfl)), List.forall_mem_cons.mpr ⟨hts _ (List.mem_append_right _ (List.mem_of_getElem? (i := 563) rfl)), List.forall_mem_cons.mpr ⟨hts _ (List.mem_append_right _ (List.mem_of_getElem? (i := 564) rfl)), List.forall_mem_cons.mpr ⟨hts _ (List.mem_append_right _ (List.mem_of_getElem? (i := 565) rfl)), List.forall_mem_cons.mpr ⟨hts _ (List.mem_append_right _ (List.mem_of_getElem? (i := 561) rfl)), List.forall_mem_cons.mpr ⟨hts _ (List.mem_append_right _ (List.mem_of_getElem? (i := 671) rfl)), List.forall_mem_cons.mpr ⟨hts _ (List.mem_append_right _ (List.mem_of_getElem? (i := 668) rfl)), List.forall_mem_cons.mpr ⟨hts _ (List.mem_append_right _ (List.mem_of_getElem? (i := 669) rfl)), List.forall_mem_cons.mpr ⟨hts _ (List.mem_append_right _ (List.mem_of_getElem? (i := 670) rfl)), List.forall_mem_cons.mpr ⟨hts _ (List.mem_append_right _ (List.mem_of_getElem? (i := 667) rfl)), List.forall_mem_cons.mpr ⟨hts _ (List.mem_append_right _ (List.mem_of_getElem? (i := 699) rfl)), List.forall_mem_cons.mpr ⟨hts _ (List.mem_append_right _ (List.mem_of_getElem? (i := 696) rfl)), List.forall_mem_cons.mpr ⟨hts _ (List.mem_append_right _ (List.mem_of_getElem? (i := 697) rfl)), List.forall_mem_cons.mpr ⟨hts _ (List.mem_append_right _ (List.mem_of_getElem? (i := 698) rfl)), List.forall_mem_cons.mpr ⟨hts _ (List.mem_append_right _ (List.mem_of_getElem? (i := 715) rfl)), List.forall_mem_cons.mpr ⟨hts _ (List.mem_append_right _ (List.mem_of_getElem? (i := 712) rfl)), List.forall_mem_cons.mpr ⟨hts _ (List.mem_append_right _ (List.mem_of_getElem? (i := 713) rfl)), List.forall_mem_cons.mpr ⟨hts _ (List.mem_append_right _ (List.mem_of_getElem? (i := 714) rfl)), List.forall_mem_cons.mpr ⟨hts _ (List.mem_append_right _ (List.mem_of_getElem? (i := 740) rfl)), List.forall_mem_cons.mpr ⟨hts _ (List.mem_append_right _ (List.mem_of_getElem? (i := 737) rfl)), List.forall_mem_cons.mpr ⟨hts _ (List.mem_append_right _ (List.mem_of_getElem? (i := 738) rfl)), List.forall_mem_cons.mpr ⟨hts _ (List.mem_append_right _ (List.mem_of_getElem? (i := 739) rfl)), List.forall_mem_cons.mpr ⟨hts _ (List.mem_append_right _ (List.mem_of_getElem? (i := 747) rfl)), List.forall_mem_cons.mpr ⟨hts _ (List.mem_append_right _ (List.mem_of_getElem? (i := 744) rfl)), List.forall_mem_cons.mpr ⟨hts _ (List.mem_append_right _ (List.mem_of_getElem? (i := 745) rfl)), List.forall_mem_cons.mpr ⟨hts _ (List.mem_append_right _ (List.mem_of_getElem? (i := 746) rfl)), List.forall_mem_cons.mpr ⟨hts _ (List.mem_append_right _ (List.mem_of_getElem? (i := 726) rfl)), List.forall_mem_cons.mpr ⟨hts _ (List.mem_append_right _ (List.mem_of_getElem? (i := 723) rfl)), fun _ h => absurd h List.not_mem_nil⟩⟩⟩⟩⟩⟩⟩⟩⟩⟩⟩⟩⟩⟩⟩⟩⟩⟩⟩⟩⟩⟩⟩⟩⟩⟩⟩⟩⟩⟩⟩⟩⟩⟩⟩⟩⟩⟩⟩⟩⟩⟩⟩⟩⟩⟩⟩⟩⟩⟩⟩⟩⟩⟩⟩⟩⟩⟩⟩⟩
  have h4 : ∀ w ∈ AW_4, w.before args s = true := by
    refine List.forall_mem_cons.mpr ⟨hts _ (List.mem_append_right _ (List.mem_of_getElem? (i := 724) rfl)), List.forall_mem_cons.mpr ⟨hts _ (List.mem_append_right _ (List.mem_of_getElem? (i := 725) rfl)), List.forall_mem_cons.mpr ⟨hts _ (List.mem_append_right _ (List.mem_of_getElem? (i := 168) rfl)), List.forall_mem_cons.mpr ⟨hts _ (List.mem_append_right _ (List.mem_of_getElem? (i := 170) rfl)), List.forall_mem_cons.mpr ⟨hts _ (List.mem_append_right _ (List.mem_of_getElem? (i := 172) rfl)), List.forall_mem_cons.mpr ⟨hts _ (List.mem_append_right _ (List.mem_of_getElem? (i := 174) rfl)), List.forall_mem_cons.mpr ⟨hts _ (List.mem_append_right _ (List.mem_of_getElem? (i := 176) rfl)), List.forall_mem_cons.mpr ⟨hts _ (List.mem_append_right _ (List.mem_of_getElem? (i := 178) rfl)), List.forall_mem_cons.mpr ⟨hts _ (List.mem_append_right _ (List.mem_of_getElem? (i := 180) rfl)), List.forall_mem_cons.mpr ⟨hts _ (List.mem_append_right _ (List.mem_of_getElem? (i := 182) rfl)), List.forall_mem_cons.mpr ⟨hts _ (List.mem_append_right _ (List.mem_of_getElem? (i := 113) rfl)), List.forall_mem_cons.mpr ⟨hts _ (List.mem_append_right _ (List.mem_of_getElem? (i := 115) rfl)), List.forall_mem_cons.mpr ⟨hts _ (List.mem_append_right _ (List.mem_of_getElem? (i := 117) rfl)), List.forall_mem_cons.mpr ⟨hts _ (List.mem_append_right _ (List.mem_of_getElem? (i := 119) rfl)), List.forall_mem_cons.mpr ⟨hts _ (List.mem_append_right _ (List.mem_of_getElem? (i := 35) rfl)), List.forall_mem_cons.mpr ⟨hts _ (List.mem_append_right _ (List.mem_of_getElem? (i := 37) rfl)), List.forall_mem_cons.mpr ⟨hts _ (List.mem_append_right _ (List.mem_of_getElem? (i := 62) rfl)), List.forall_mem_cons.mpr ⟨hts _ (List.mem_append_right _ (List.mem_of_getElem? (i := 64) rfl)), List.forall_mem_cons.mpr ⟨hts _ (List.mem_append_right _ (List.mem_of_getElem? (i := 66) rfl)), List.forall_mem_cons.mpr ⟨hts _ (List.mem_append_right _ (List.mem_of_getElem? (i := 199) rfl)), List.forall_mem_cons.mpr ⟨hts _ (List.mem_append_right _ (List.mem_of_getElem? (i := 201) rfl)), List.forall_mem_cons.mpr ⟨hts _ (List.mem_append_right _ (List.mem_of_getElem? (i := 203) rfl)), List.forall_mem_cons.mpr ⟨hts _ (List.mem_append_right _ (List.mem_of_getElem? (i := 205) rfl)), List.forall_mem_cons.mpr ⟨hts _ (List.mem_append_right _ (List.mem_of_getElem? (i := 207) rfl)), List.forall_mem_cons.mpr ⟨hts _ (List.mem_append_right _ (List.mem_of_getElem? (i := 209) rfl)), List.forall_mem_cons.mpr ⟨hts _ (List.mem_append_right _ (List.mem_of_getElem? (i := 211) rfl)), List.forall_mem_cons.mpr ⟨hts _ (List.mem_append_right _ (List.mem_of_getElem? (i := 213) rfl)), List.forall_mem_cons.mpr ⟨hts _ (List.mem_append_right _ (List.mem_of_getElem? (i := 215) rfl)), List.forall_mem_cons.mpr ⟨hts _ (List.mem_append_right _ (List.mem_of_getElem? (i := 146) rfl)), List.forall_mem_cons.mpr ⟨hts _ (List.mem_append_right _ (List.mem_of_getElem? (i := 148) rfl)), List.forall_mem_cons.mpr ⟨hts _ (List.mem_append_right _ (List.mem_of_getElem? (i := 150) rfl)), List.forall_mem_cons.mpr ⟨hts _ (List.mem_append_right _ (List.mem_of_getElem? (i := 80) rfl)), List.forall_mem_cons.mpr ⟨hts _ (List.mem_append_right _ (List.mem_of_getElem? (i := 82) rfl)), List.forall_mem_cons.mpr ⟨hts _ (List.mem_append_right _ (List.mem_of_getElem? (i := 84) rfl)), List.forall_mem_cons.mpr ⟨hts _ (List.mem_append_right _ (List.mem_of_getElem? (i := 86) rfl)), List.forall_mem_cons.mpr ⟨hts _ (List.mem_append_right _ (List.mem_of_getElem? (i := 88) rfl)), List.forall_mem_cons.mpr ⟨hts _ (List.mem_append_right _ (List.mem_of_getElem? (i := 90) rfl)), List.forall_mem_cons.mpr ⟨hts _ (List.mem_append_right _ (List.mem_of_getElem? (i := 92) rfl)), List.forall_mem_cons.mpr ⟨hts _ (List.mem_append_right _ (List.mem_of_getElem? (i := 94) rfl)), List.forall_mem_cons.mpr ⟨hts _ (List.mem_append_right _ (List.mem_of_getElem? (i := 96) rfl)), List.forall_mem_cons.mpr ⟨hts _ (List.mem_append_right _ (List.mem_of_getElem? (i := 222) rfl)), List.forall_mem_cons.mpr ⟨hts _ (List.mem_append_right _ (List.mem_of_getElem? (i := 224) rfl)), List.forall_mem_cons.mpr ⟨hts _ (List.mem_append_right _ (List.mem_of_getElem? (i := 226) rfl)), List.forall_mem_cons.mpr ⟨hts _ (List.mem_append_right _ (List.mem_of_getElem? (i := 228) rfl)), List.forall_mem_cons.mpr ⟨hts _ (List.mem_append_right _ (List.mem_of_getElem? (i := 786) rfl)), List.forall_mem_cons.mpr ⟨hts _ (List.mem_append_right _ (List.mem_of_getElem? (i := 788) rfl)), List.forall_mem_cons.mpr ⟨hts _ (List.mem_append_right _ (List.mem_of_getElem? (i := 790) rfl)), List.forall_mem_cons.mpr ⟨hts _ (List.mem_append_right _ (List.mem_of_getElem? (i := 792) rfl)), List.forall_mem_cons.mpr ⟨hts _ (List.mem_append_right _ (List.mem_of_getElem? (i := 794) rfl)), List.forall_mem_cons.mpr ⟨hts _ (List.mem_append_right _ (List.mem_of_getElem? (i := 796) rfl)), List.forall_mem_cons.mpr ⟨hts _ (List.mem_append_right _ (List.mem_of_getElem? (i := 798) rfl)), List.forall_mem_cons.mpr ⟨hts _ (List.mem_append_right _ (List.mem_of_getElem? (i := 800) rfl)), List.forall_mem_cons.mpr ⟨hts _ (List.mem_append_right _ (List.mem_of_getElem? (i := 802) rfl)), List.forall_mem_cons.mpr ⟨hts _ (List.mem_append_right _ (List.mem_of_getElem? (i := 804) rfl)), List.forall_mem_cons.mpr ⟨hts _ (List.mem_append_right _ (List.mem_of_getElem? (i := 806) rfl)), List.forall_mem_cons.mpr ⟨hts _ (List.mem_append_right _ (List.mem_of_getElem? (i := 808) rfl)), List.forall_mem_cons.mpr ⟨hts _ (List.mem_append_right _ (List.mem_of_getElem? (i := 810) rfl)), List.forall_mem_cons.mpr ⟨hts _ (List.mem_append_right _ (List.mem_of_getElem? (i := 812) rfl)), List.forall_mem_cons.mpr ⟨hts _ (List.mem_append_right _ (List.mem_of_getElem? (i := 814) rfl)), List.forall_mem_cons.mpr ⟨hts _ (List.mem_append_right _ (List.mem_of_getElem? (i := 816) rfl)), fun _ h => absurd h List.not_mem_nil⟩⟩⟩⟩⟩⟩⟩⟩⟩⟩⟩⟩⟩⟩⟩⟩⟩⟩⟩⟩⟩⟩⟩⟩⟩⟩⟩⟩⟩⟩⟩⟩⟩⟩⟩⟩⟩⟩⟩⟩⟩⟩⟩⟩⟩⟩⟩⟩⟩⟩⟩⟩⟩⟩⟩⟩⟩⟩⟩⟩
  have h5 : ∀ w ∈ AW_5, w.before args s = true := by
    refine List.forall_mem_cons.mpr ⟨hts _ (List.mem_append_right _ (List.mem_of_getElem? (i := 818) rfl)), List.forall_mem_cons.mpr ⟨hts _ (List.mem_append_right _ (List.mem_of_getElem? (i := 820) rfl)), List.forall_mem_cons.mpr ⟨hts _ (List.mem_append_right _ (List.mem_of_getElem? (i := 822) rfl)), List.forall_mem_cons.mpr ⟨hts _ (List.mem_append_right _ (List.mem_of_getElem? (i := 824) rfl)), List.forall_mem_cons.mpr ⟨hts _ (List.mem_append_right _ (List.mem_of_getElem? (i := 826) rfl)), List.forall_mem_cons.mpr ⟨hts _ (List.mem_append_right _ (List.mem_of_getElem? (i := 828) rfl)), List.forall_mem_cons.mpr ⟨hts _ (List.mem_append_right _ (List.mem_of_getElem? (i := 830) rfl)), List.forall_mem_cons.mpr ⟨hts _ (List.mem_append_right _ (List.mem_of_getElem? (i := 832) rfl)), List.forall_mem_cons.mpr ⟨hts _ (List.mem_append_right _ (List.mem_of_getElem? (i := 834) rfl)), List.forall_mem_cons.mpr ⟨hts _ (List.mem_append_right _ (List.mem_of_getElem? (i := 836) rfl)), List.forall_mem_cons.mpr ⟨hts _ (List.mem_append_right _ (List.mem_of_getElem? (i := 838) rfl)), List.forall_mem_cons.mpr ⟨hts _ (List.mem_append_right _ (List.mem_of_getElem? (i := 840) rfl)), List.forall_mem_cons.mpr ⟨hts _ (List.mem_append_right _ (List.mem_of_getElem? (i := 842) rfl)), List.forall_mem_cons.mpr ⟨hts _ (List.mem_append_right _ (List.mem_of_getElem? (i := 844) rfl)), List.forall_mem_cons.mpr ⟨hts _ (List.mem_append_right _ (List.mem_of_getElem? (i := 846) rfl)), List.forall_mem_cons.mpr ⟨hts _ (List.mem_append_right _ (List.mem_of_getElem? (i := 234) rfl)), List.forall_mem_cons.mpr ⟨hts _ (List.mem_append_right _ (List.mem_of_getElem? (i := 231) rfl)), List.forall_mem_cons.mpr ⟨hts _ (List.mem_append_right _ (List.mem_of_getElem? (i := 232) rfl)), List.forall_mem_cons.mpr ⟨hts _ (List.mem_append_right _ (List.mem_of_getElem? (i := 233) rfl)), List.forall_mem_cons.mpr ⟨hts _ (List.mem_append_right _ (List.mem_of_getElem? (i := 856) rfl)), List.forall_mem_cons.mpr ⟨hts _ (List.mem_append_right _ (List.mem_of_getElem? (i := 853) rfl)), List.forall_mem_cons.mpr ⟨hts _ (List.mem_append_right _ (List.mem_of_getElem? (i := 854) rfl)), List.forall_mem_cons.mpr ⟨hts _ (List.mem_append_right _ (List.mem_of_getElem? (i := 855) rfl)), List.forall_mem_cons.mpr ⟨hts _ (List.mem_append_right _ (List.mem_of_getElem? (i := 560) rfl)), List.forall_mem_cons.mpr ⟨hts _ (List.mem_append_right _ (List.mem_of_getElem? (i := 558) rfl)), List.forall_mem_cons.mpr ⟨hts _ (List.mem_append_right _ (List.mem_of_getElem? (i := 559) rfl)), List.forall_mem_cons.mpr ⟨hts _ (List.mem_append_right _ (List.mem_of_getElem? (i := 0) rfl)), List.forall_mem_cons.mpr ⟨hts _ (List.mem_append_right _ (List.mem_of_getElem? (i := 863) rfl)), List.forall_mem_cons.mpr ⟨hts _ (List.mem_append_right _ (List.mem_of_getElem? (i := 860) rfl)), List.forall_mem_cons.mpr ⟨hts _ (List.mem_append_right _ (List.mem_of_getElem? (i := 861) rfl)), List.forall_mem_cons.mpr ⟨hts _ (List.mem_append_right _ (List.mem_of_getElem? (i := 862) rfl)), List.forall_mem_cons.mpr ⟨hts _ (List.mem_append_right _ (List.mem_of_getElem? (i := 852) rfl)), List.forall_mem_cons.mpr ⟨hts _ (List.mem_append_right _ (List.mem_of_getElem? (i := 849) rfl)), List.forall_mem_cons.mpr ⟨hts _ (List.mem_append_right _ (List.mem_of_getElem? (i := 850) rfl)), List.forall_mem_cons.mpr ⟨hts _ (List.mem_append_right _ (List.mem_of_getElem? (i := 851) rfl)), List.forall_mem_cons.mpr ⟨hts _ (List.mem_append_right _ (List.mem_of_getElem? (i := 666) rfl)), List.forall_mem_cons.mpr ⟨hts _ (List.mem_append_right _ (List.mem_of_getElem? (i := 664) rfl)), List.forall_mem_cons.mpr ⟨hts _ (List.mem_append_right _ (List.mem_of_getElem? (i := 665) rfl)), List.forall_mem_cons.mpr ⟨hts _ (List.mem_append_right _ (List.mem_of_getElem? (i := 883) rfl)), List.forall_mem_cons.mpr ⟨hts _ (List.mem_append_right _ (List.mem_of_getElem? (i := 880) rfl)), List.forall_mem_cons.mpr ⟨hts _ (List.mem_append_right _ (List.mem_of_getElem? (i := 881) rfl)), List.forall_mem_cons.mpr ⟨hts _ (List.mem_append_right _ (List.mem_of_getElem? (i := 882) rfl)), List.forall_mem_cons.mpr ⟨hts _ (List.mem_append_right _ (List.mem_of_getElem? (i := 695) rfl)), List.forall_mem_cons.mpr ⟨hts _ (List.mem_append_right _ (List.mem_of_getElem? (i := 693) rfl)), List.forall_mem_cons.mpr ⟨hts _ (List.mem_append_right _ (List.mem_of_getElem? (i := 694) rfl)), List.forall_mem_cons.mpr ⟨hts _ (List.mem_append_right _ (List.mem_of_getElem? (i := 891) rfl)), List.forall_mem_cons.mpr ⟨hts _ (List.mem_append_right _ (List.mem_of_getElem? (i := 888) rfl)), List.forall_mem_cons.mpr ⟨hts _ (List.mem_append_right _ (List.mem_of_getElem? (i := 889) rfl)), List.forall_mem_cons.mpr ⟨hts _ (List.mem_append_right _ (List.mem_of_getElem? (i := 890) rfl)), List.forall_mem_cons.mpr ⟨hts _ (List.mem_append_right _ (List.mem_of_getElem? (i := 242) rfl)), List.forall_mem_cons.mpr ⟨hts _ (List.mem_append_right _ (List.mem_of_getElem? (i := 239) rfl)), List.forall_mem_cons.mpr ⟨hts _ (List.mem_append_right _ (List.mem_of_getElem? (i := 240) rfl)), List.forall_mem_cons.mpr ⟨hts _ (List.mem_append_right _ (List.mem_of_getElem? (i := 241) rfl)), List.forall_mem_cons.mpr ⟨hts _ (List.mem_append_right _ (List.mem_of_getElem? (i := 931) rfl)), List.forall_mem_cons.mpr ⟨hts _ (List.mem_append_right _ (List.mem_of_getElem? (i := 928) rfl)), List.forall_mem_cons.mpr ⟨hts _ (List.mem_append_right _ (List.mem_of_getElem? (i := 929) rfl)), List.forall_mem_cons.mpr ⟨hts _ (List.mem_append_right _ (List.mem_of_getElem? (i := 930) rfl)), List.forall_mem_cons.mpr ⟨hts _ (List.mem_append_right _ (List.mem_of_getElem? (i := 521) rfl)), List.forall_mem_cons.mpr ⟨hts _ (List.mem_append_right _ (List.mem_of_getElem? (i := 518) rfl)), List.forall_mem_cons.mpr ⟨hts _ (List.mem_append_right _ (List.mem_of_getElem? (i := 519) rfl)), fun _ h => absurd h List.not_mem_nil⟩⟩⟩⟩⟩⟩⟩⟩⟩⟩⟩⟩⟩⟩⟩⟩⟩⟩⟩⟩⟩⟩⟩⟩⟩⟩⟩⟩⟩⟩⟩⟩⟩⟩⟩⟩⟩⟩⟩⟩⟩⟩⟩⟩⟩⟩⟩⟩⟩⟩⟩⟩⟩⟩⟩⟩⟩⟩⟩⟩
  have h6 : ∀ w ∈ AW_6, w.before args s = true := by
    refine List.forall_mem_cons.mpr ⟨hts _ (List.mem_append_right _ (List.mem_of_getElem? (i := 520) rfl)), List.forall_mem_cons.mpr ⟨hts _ (List.mem_append_right _ (List.mem_of_getElem? (i := 1026) rfl)), List.forall_mem_cons.mpr ⟨hts _ (List.mem_append_right _ (List.mem_of_getElem? (i := 1023) rfl)), List.forall_mem_cons.mpr ⟨hts _ (List.mem_append_right _ (List.mem_of_getElem? (i := 1024) rfl)), List.forall_mem_cons.mpr ⟨hts _ (List.mem_append_right _ (List.mem_of_getElem? (i := 1025) rfl)), List.forall_mem_cons.mpr ⟨hts _ (List.mem_append_right _ (List.mem_of_getElem? (i := 525) rfl)), List.forall_mem_cons.mpr ⟨hts _ (List.mem_append_right _ (List.mem_of_getElem? (i := 522) rfl)), List.forall_mem_cons.mpr ⟨hts _ (List.mem_append_right _ (List.mem_of_getElem? (i := 523) rfl)), List.forall_mem_cons.mpr ⟨hts _ (List.mem_append_right _ (List.mem_of_getElem? (i := 524) rfl)), List.forall_mem_cons.mpr ⟨hts _ (List.mem_append_right _ (List.mem_of_getElem? (i := 1030) rfl)), List.forall_mem_cons.mpr ⟨hts _ (List.mem_append_right _ (List.mem_of_getElem? (i := 1027) rfl)), List.forall_mem_cons.mpr ⟨hts _ (List.mem_append_right _ (List.mem_of_getElem? (i := 1028) rfl)), List.forall_mem_cons.mpr ⟨hts _ (List.mem_append_right _ (List.mem_of_getElem? (i := 1029) rfl)), List.forall_mem_cons.mpr ⟨hts _ (List.mem_append_right _ (List.mem_of_getElem? (i := 711) rfl)), List.forall_mem_cons.mpr ⟨hts _ (List.mem_append_right _ (List.mem_of_getElem? (i := 709) rfl)), List.forall_mem_cons.mpr ⟨hts _ (List.mem_append_right _ (List.mem_of_getElem? (i := 710) rfl)), List.forall_mem_cons.mpr ⟨hts _ (List.mem_append_right _ (List.mem_of_getElem? (i := 1042) rfl)), List.forall_mem_cons.mpr ⟨hts _ (List.mem_append_right _ (List.mem_of_getElem? (i := 1039) rfl)), List.forall_mem_cons.mpr ⟨hts _ (List.mem_append_right _ (List.mem_of_getElem? (i := 1040) rfl)), List.forall_mem_cons.mpr ⟨hts _ (List.mem_append_right _ (List.mem_of_getElem? (i := 1041) rfl)), List.forall_mem_cons.mpr ⟨hts _ (List.mem_append_right _ (List.mem_of_getElem? (i := 722) rfl)), List.forall_mem_cons.mpr ⟨hts _ (List.mem_append_right _ (List.mem_of_getElem? (i := 720) rfl)), List.forall_mem_cons.mpr ⟨hts _ (List.mem_append_right _ (List.mem_of_getElem? (i := 721) rfl)), List.forall_mem_cons.mpr ⟨hts _ (List.mem_append_right _ (List.mem_of_getElem? (i := 1050) rfl)), List.forall_mem_cons.mpr ⟨hts _ (List.mem_append_right _ (List.mem_of_getElem? (i := 1047) rfl)), List.forall_mem_cons.mpr ⟨hts _ (List.mem_append_right _ (List.mem_of_getElem? (i := 1048) rfl)), List.forall_mem_cons.mpr ⟨hts _ (List.mem_append_right _ (List.mem_of_getElem? (i := 1049) rfl)), List.forall_mem_cons.mpr ⟨hts _ (List.mem_append_right _ (List.mem_of_getElem? (i := 736) rfl)), List.forall_mem_cons.mpr ⟨hts _ (List.mem_append_right _ (List.mem_of_getElem? (i := 734) rfl)), List.forall_mem_cons.mpr ⟨hts _ (List.mem_append_right _ (List.mem_of_getElem? (i := 735) rfl)), List.forall_mem_cons.mpr ⟨hts _ (List.mem_append_right _ (List.mem_of_getElem? (i := 1054) rfl)), List.forall_mem_cons.mpr ⟨hts _ (List.mem_append_right _ (List.mem_of_getElem? (i := 1051) rfl)), List.forall_mem_cons.mpr ⟨hts _ (List.mem_append_right _ (List.mem_of_getElem? (i := 1052) rfl)), List.forall_mem_cons.mpr ⟨hts _ (List.mem_append_right _ (List.mem_of_getElem? (i := 1053) rfl)), List.forall_mem_cons.mpr ⟨hts _ (List.mem_append_right _ (List.mem_of_getElem? (i := 743) rfl)), List.forall_mem_cons.mpr ⟨hts _ (List.mem_append_right _ (List.mem_of_getElem? (i := 741) rfl)), List.forall_mem_cons.mpr ⟨hts _ (List.mem_append_right _ (List.mem_of_getElem? (i := 742) rfl)), List.forall_mem_cons.mpr ⟨hts _ (List.mem_append_right _ (List.mem_of_getElem? (i := 1058) rfl)), List.forall_mem_cons.mpr ⟨hts _ (List.mem_append_right _ (List.mem_of_getElem? (i := 1055) rfl)), List.forall_mem_cons.mpr ⟨hts _ (List.mem_append_right _ (List.mem_of_getElem? (i := 1056) rfl)), List.forall_mem_cons.mpr ⟨hts _ (List.mem_append_right _ (List.mem_of_getElem? (i := 1057) rfl)), List.forall_mem_cons.mpr ⟨hts _ (List.mem_append_right _ (List.mem_of_getElem? (i := 556) rfl)), List.forall_mem_cons.mpr ⟨hts _ (List.mem_append_right _ (List.mem_of_getElem? (i := 553) rfl)), List.forall_mem_cons.mpr ⟨hts _ (List.mem_append_right _ (List.mem_of_getElem? (i := 554) rfl)), List.forall_mem_cons.mpr ⟨hts _ (List.mem_append_right _ (List.mem_of_getElem? (i := 555) rfl)), List.forall_mem_cons.mpr ⟨hts _ (List.mem_append_right _ (List.mem_of_getElem? (i := 1062) rfl)), List.forall_mem_cons.mpr ⟨hts _ (List.mem_append_right _ (List.mem_of_getElem? (i := 1059) rfl)), List.forall_mem_cons.mpr ⟨hts _ (List.mem_append_right _ (List.mem_of_getElem? (i := 1060) rfl)), List.forall_mem_cons.mpr ⟨hts _ (List.mem_append_right _ (List.mem_of_getElem? (i := 1061) rfl)), List.forall_mem_cons.mpr ⟨hts _ (List.mem_append_right _ (List.mem_of_getElem? (i := 19) rfl)), List.forall_mem_cons.mpr ⟨hts _ (List.mem_append_right _ (List.mem_of_getElem? (i := 20) rfl)), List.forall_mem_cons.mpr ⟨hts _ (List.mem_append_right _ (List.mem_of_getElem? (i := 23) rfl)), List.forall_mem_cons.mpr ⟨hts _ (List.mem_append_right _ (List.mem_of_getElem? (i := 21) rfl)), List.forall_mem_cons.mpr ⟨hts _ (List.mem_append_right _ (List.mem_of_getElem? (i := 22) rfl)), List.forall_mem_cons.mpr ⟨hts _ (List.mem_append_right _ (List.mem_of_getElem? (i := 749) rfl)), List.forall_mem_cons.mpr ⟨hts _ (List.mem_append_right _ (List.mem_of_getElem? (i := 750) rfl)), List.forall_mem_cons.mpr ⟨hts _ (List.mem_append_right _ (List.mem_of_getElem? (i := 753) rfl)), List.forall_mem_cons.mpr ⟨hts _ (List.mem_append_right _ (List.mem_of_getElem? (i := 751) rfl)), List.forall_mem_cons.mpr ⟨hts _ (List.mem_append_right _ (List.mem_of_getElem? (i := 752) rfl)), List.forall_mem_cons.mpr ⟨hts _ (List.mem_append_right _ (List.mem_of_getElem? (i := 1063) rfl)), fun _ h => absurd h List.not_mem_nil⟩⟩⟩⟩⟩⟩⟩⟩⟩⟩⟩⟩⟩⟩⟩⟩⟩⟩⟩⟩⟩⟩⟩⟩⟩⟩⟩⟩⟩⟩⟩⟩⟩⟩⟩⟩⟩⟩⟩⟩⟩⟩⟩⟩⟩⟩⟩⟩⟩⟩⟩⟩⟩⟩⟩⟩⟩⟩⟩⟩
  exact List.forall_mem_append.mpr ⟨h0, List.forall_mem_append.mpr ⟨h1, List.forall_mem_append.mpr ⟨h2, List.forall_mem_append.mpr ⟨h3, List.forall_mem_append.mpr ⟨h4, List.forall_mem_append.mpr ⟨h5, h6⟩⟩⟩⟩⟩⟩
