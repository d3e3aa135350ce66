def AW_0 : List Cond := [.initialized "TaleMachineLaw",
  .initialized "TaleMachine",
  .initialized "TaleMachine$Script",
  .initialized "TaleMachine$World",
  .initialized "TaleMachine$State",
  .initialized "java/util/Arrays",
  .initialized "TaleMachine$History",
  .initialized "TaleMachine$Teller",
  .initialized "TaleMachine$Values",
  .initialized "TaleMachine$Frame",
  .initialized "TaleMachineModel",
  .initialized "java/lang/Throwable",
  .initialized "java/lang/Exception",
  .initialized "java/lang/RuntimeException",
  .initialized "java/lang/IllegalArgumentException",
  .initialized "java/lang/IllegalStateException",
  .initialized "java/util/NoSuchElementException",
  .initialized "java/lang/System",
  .initialized "java/lang/Math",
  .classLink "TaleMachineLaw" 8 "TaleMachine",
  .instantiable "TaleMachine" 4,
  .methodLink "TaleMachineLaw" 41 y_TM_init,
  .instanceMethod y_TM_init,
  .code y_TM_init prog_1_method_1_code 1 none,
  .methodLink "TaleMachine" 3 objectInit,
  .instanceMethod objectInit,
  .code objectInit object_method_1_code 1 none,
  .classLink "TaleMachine" 9 "TaleMachine$Script",
  .instantiable "TaleMachine$Script" 2,
  .instanceMethod y_Script_init,
  .code y_Script_init prog_4_method_1_code 1 none,
  .methodLink "TaleMachine$Script" 3 objectInit,
  .fieldLink "TaleMachine$Script" 9 "TaleMachine$Script" "bytes" "[I",
  .fieldLink "TaleMachine$Script" 15 "TaleMachine$Script" "length" "I",
  .laysFinal "TaleMachine$Script" "TaleMachine$Script" "bytes" "[I",
  .lays "TaleMachine$Script" "TaleMachine$Script" "length" "I",
  .arrayClass .int,
  .classLink "TaleMachine" 16 "TaleMachine$World",
  .instantiable "TaleMachine$World" 9,
  .instanceMethod y_World_init,
  .code y_World_init prog_8_method_1_code 1 none,
  .methodLink "TaleMachine$World" 3 objectInit,
  .classLink "TaleMachine$World" 9 "TaleMachine$State",
  .instantiable "TaleMachine$State" 3,
  .methodLink "TaleMachine$World" 11 y_State_init,
  .instanceMethod y_State_init,
  .code y_State_init prog_5_method_1_code 1 none,
  .methodLink "TaleMachine$State" 3 objectInit,
  .methodLink "TaleMachine$State" 21 y_Arrays_fill,
  .static y_Arrays_fill,
  .code y_Arrays_fill prog_19_method_103_code 4 none,
  .fieldLink "TaleMachine$State" 9 "TaleMachine$State" "kinds" "[I",
  .fieldLink "TaleMachine$World" 42 "TaleMachine$State" "kinds" "[I",
  .fieldLink "TaleMachine$State" 15 "TaleMachine$State" "ints" "[I",
  .fieldLink "TaleMachine$World" 45 "TaleMachine$State" "ints" "[I",
  .fieldLink "TaleMachine$State" 18 "TaleMachine$State" "parents" "[I",
  .fieldLink "TaleMachine$World" 39 "TaleMachine$State" "parents" "[I",
  .laysFinal "TaleMachine$State" "TaleMachine$State" "kinds" "[I",
  .laysFinal "TaleMachine$State" "TaleMachine$State" "ints" "[I",
  .laysFinal "TaleMachine$State" "TaleMachine$State" "parents" "[I"]
def AW_1 : List Cond := [.fieldLink "TaleMachine$World" 12 "TaleMachine$World" "now" "LTaleMachine$State;",
  .fieldLink "TaleMachine$Teller" 209 "TaleMachine$World" "now" "LTaleMachine$State;",
  .fieldLink "TaleMachine$World" 31 "TaleMachine$World" "fixed" "I",
  .fieldLink "TaleMachine" 54 "TaleMachine$World" "fixed" "I",
  .fieldLink "TaleMachine$World" 18 "TaleMachine$World" "fixedLines" "[I",
  .fieldLink "TaleMachine$World" 22 "TaleMachine$World" "fixedLengths" "[I",
  .fieldLink "TaleMachine$World" 25 "TaleMachine$World" "line" "[I",
  .fieldLink "TaleMachine$World" 48 "TaleMachine$World" "length" "I",
  .fieldLink "TaleMachine$World" 28 "TaleMachine$World" "reached" "[I",
  .fieldLink "TaleMachine$World" 85 "TaleMachine$World" "reachedCount" "I",
  .fieldLink "TaleMachine$World" 88 "TaleMachine$World" "reachedBits" "I",
  .laysFinal "TaleMachine$World" "TaleMachine$World" "now" "LTaleMachine$State;",
  .lays "TaleMachine$World" "TaleMachine$World" "fixed" "I",
  .laysFinal "TaleMachine$World" "TaleMachine$World" "fixedLines" "[I",
  .laysFinal "TaleMachine$World" "TaleMachine$World" "fixedLengths" "[I",
  .laysFinal "TaleMachine$World" "TaleMachine$World" "line" "[I",
  .lays "TaleMachine$World" "TaleMachine$World" "length" "I",
  .laysFinal "TaleMachine$World" "TaleMachine$World" "reached" "[I",
  .lays "TaleMachine$World" "TaleMachine$World" "reachedCount" "I",
  .lays "TaleMachine$World" "TaleMachine$World" "reachedBits" "I",
  .classLink "TaleMachine" 23 "TaleMachine$History",
  .instantiable "TaleMachine$History" 4,
  .methodLink "TaleMachine" 25 y_History_init,
  .instanceMethod y_History_init,
  .code y_History_init prog_3_method_1_code 2 none,
  .methodLink "TaleMachine$History" 3 objectInit,
  .classLink "TaleMachine$History" 9 "TaleMachine$State",
  .methodLink "TaleMachine$History" 24 y_State_init,
  .fieldLink "TaleMachine$History" 11 "TaleMachine$History" "pointed" "[LTaleMachine$State;",
  .fieldLink "TaleMachine$History" 17 "TaleMachine$History" "saved" "[LTaleMachine$State;",
  .fieldLink "TaleMachine$History" 20 "TaleMachine$History" "isSaved" "[Z",
  .fieldLink "TaleMachine$History" 25 "TaleMachine$History" "points" "I",
  .fieldLink "TaleMachine" 159 "TaleMachine$History" "points" "I",
  .laysFinal "TaleMachine$History" "TaleMachine$History" "pointed" "[LTaleMachine$State;",
  .laysFinal "TaleMachine$History" "TaleMachine$History" "saved" "[LTaleMachine$State;",
  .laysFinal "TaleMachine$History" "TaleMachine$History" "isSaved" "[Z",
  .lays "TaleMachine$History" "TaleMachine$History" "points" "I",
  .arrayClass .boolean,
  .classLink "TaleMachine" 30 "TaleMachine$Teller",
  .instantiable "TaleMachine$Teller" 9,
  .methodLink "TaleMachine" 32 y_Teller_init,
  .instanceMethod y_Teller_init,
  .code y_Teller_init prog_6_method_1_code 5 none,
  .methodLink "TaleMachine$Teller" 3 objectInit,
  .classLink "TaleMachine$Teller" 9 "TaleMachine$Frame",
  .classLink "TaleMachine$Teller" 17 "TaleMachine$Values",
  .instantiable "TaleMachine$Values" 3,
  .methodLink "TaleMachine$Teller" 19 y_Values_init,
  .instanceMethod y_Values_init,
  .code y_Values_init prog_7_method_1_code 2 none,
  .methodLink "TaleMachine$Values" 1 objectInit,
  .fieldLink "TaleMachine$Values" 7 "TaleMachine$Values" "kinds" "[I",
  .fieldLink "TaleMachine$Teller" 71 "TaleMachine$Values" "kinds" "[I",
  .fieldLink "TaleMachine" 184 "TaleMachine$Values" "kinds" "[I",
  .fieldLink "TaleMachine$Values" 13 "TaleMachine$Values" "ints" "[I",
  .fieldLink "TaleMachine$Teller" 75 "TaleMachine$Values" "ints" "[I",
  .fieldLink "TaleMachine" 188 "TaleMachine$Values" "ints" "[I",
  .fieldLink "TaleMachine$Values" 16 "TaleMachine$Values" "count" "I",
  .fieldLink "TaleMachine$Teller" 52 "TaleMachine$Values" "count" "I",
  .fieldLink "TaleMachine" 168 "TaleMachine$Values" "count" "I"]
def AW_2 : List Cond := [.laysFinal "TaleMachine$Values" "TaleMachine$Values" "kinds" "[I",
  .laysFinal "TaleMachine$Values" "TaleMachine$Values" "ints" "[I",
  .lays "TaleMachine$Values" "TaleMachine$Values" "count" "I",
  .instantiable "TaleMachine$Frame" 8,
  .instanceMethod y_Frame_init,
  .code y_Frame_init prog_2_method_1_code 1 none,
  .methodLink "TaleMachine$Frame" 1 objectInit,
  .fieldLink "TaleMachine$Teller" 254 "TaleMachine$Frame" "method" "I",
  .fieldLink "TaleMachine$Teller" 260 "TaleMachine$Frame" "beginning" "I",
  .fieldLink "TaleMachine$Teller" 84 "TaleMachine$Frame" "self" "I",
  .fieldLink "TaleMachine" 156 "TaleMachine$Frame" "self" "I",
  .fieldLink "TaleMachine$Teller" 90 "TaleMachine$Frame" "found" "I",
  .fieldLink "TaleMachine$Teller" 97 "TaleMachine$Frame" "place" "I",
  .fieldLink "TaleMachine" 151 "TaleMachine$Frame" "place" "I",
  .fieldLink "TaleMachine$Teller" 110 "TaleMachine$Frame" "behind" "I",
  .fieldLink "TaleMachine$Teller" 137 "TaleMachine$Frame" "base" "I",
  .fieldLink "TaleMachine$Teller" 223 "TaleMachine$Frame" "floor" "I",
  .lays "TaleMachine$Frame" "TaleMachine$Frame" "method" "I",
  .lays "TaleMachine$Frame" "TaleMachine$Frame" "beginning" "I",
  .lays "TaleMachine$Frame" "TaleMachine$Frame" "self" "I",
  .lays "TaleMachine$Frame" "TaleMachine$Frame" "found" "I",
  .lays "TaleMachine$Frame" "TaleMachine$Frame" "place" "I",
  .lays "TaleMachine$Frame" "TaleMachine$Frame" "behind" "I",
  .lays "TaleMachine$Frame" "TaleMachine$Frame" "base" "I",
  .lays "TaleMachine$Frame" "TaleMachine$Frame" "floor" "I",
  .fieldLink "TaleMachine$Teller" 36 "TaleMachine$Teller" "script" "LTaleMachine$Script;",
  .fieldLink "TaleMachine$Teller" 40 "TaleMachine$Teller" "world" "LTaleMachine$World;",
  .fieldLink "TaleMachine$Teller" 44 "TaleMachine$Teller" "history" "LTaleMachine$History;",
  .fieldLink "TaleMachine$Teller" 11 "TaleMachine$Teller" "frames" "[LTaleMachine$Frame;",
  .fieldLink "TaleMachine$Teller" 22 "TaleMachine$Teller" "values" "LTaleMachine$Values;",
  .fieldLink "TaleMachine" 134 "TaleMachine$Teller" "values" "LTaleMachine$Values;",
  .fieldLink "TaleMachine$Teller" 26 "TaleMachine$Teller" "sayings" "LTaleMachine$Values;",
  .fieldLink "TaleMachine" 165 "TaleMachine$Teller" "sayings" "LTaleMachine$Values;",
  .fieldLink "TaleMachine$Teller" 29 "TaleMachine$Teller" "result" "LTaleMachine$Values;",
  .fieldLink "TaleMachine" 174 "TaleMachine$Teller" "result" "LTaleMachine$Values;",
  .fieldLink "TaleMachine$Teller" 49 "TaleMachine$Teller" "depth" "I",
  .fieldLink "TaleMachine" 142 "TaleMachine$Teller" "depth" "I",
  .fieldLink "TaleMachine$Teller" 32 "TaleMachine$Teller" "outcome" "I",
  .fieldLink "TaleMachine" 58 "TaleMachine$Teller" "outcome" "I",
  .laysFinal "TaleMachine$Teller" "TaleMachine$Teller" "script" "LTaleMachine$Script;",
  .laysFinal "TaleMachine$Teller" "TaleMachine$Teller" "world" "LTaleMachine$World;",
  .laysFinal "TaleMachine$Teller" "TaleMachine$Teller" "history" "LTaleMachine$History;",
  .laysFinal "TaleMachine$Teller" "TaleMachine$Teller" "frames" "[LTaleMachine$Frame;",
  .laysFinal "TaleMachine$Teller" "TaleMachine$Teller" "values" "LTaleMachine$Values;",
  .laysFinal "TaleMachine$Teller" "TaleMachine$Teller" "sayings" "LTaleMachine$Values;",
  .laysFinal "TaleMachine$Teller" "TaleMachine$Teller" "result" "LTaleMachine$Values;",
  .lays "TaleMachine$Teller" "TaleMachine$Teller" "depth" "I",
  .lays "TaleMachine$Teller" "TaleMachine$Teller" "outcome" "I",
  .fieldLink "TaleMachine" 12 "TaleMachine" "script" "LTaleMachine$Script;",
  .fieldLink "TaleMachine" 19 "TaleMachine" "world" "LTaleMachine$World;",
  .fieldLink "TaleMachine" 26 "TaleMachine" "history" "LTaleMachine$History;",
  .fieldLink "TaleMachine" 35 "TaleMachine" "teller" "LTaleMachine$Teller;",
  .laysFinal "TaleMachine" "TaleMachine" "script" "LTaleMachine$Script;",
  .laysFinal "TaleMachine" "TaleMachine" "world" "LTaleMachine$World;",
  .laysFinal "TaleMachine" "TaleMachine" "history" "LTaleMachine$History;",
  .laysFinal "TaleMachine" "TaleMachine" "teller" "LTaleMachine$Teller;",
  .methodLink "TaleMachineLaw" 45 y_TM_code,
  .instanceMethod y_TM_code,
  .selects "TaleMachine" y_TM_code y_TM_code,
  .code y_TM_code prog_1_method_2_code 3 (some .boolean)]
def AW_3 : List Cond := [.methodLink "TaleMachine" 39 y_Script_append,
  .instanceMethod y_Script_append,
  .selects "TaleMachine$Script" y_Script_append y_Script_append,
  .code y_Script_append prog_4_method_2_code 4 (some .boolean),
  .methodLink "TaleMachineLaw" 68 y_TM_run,
  .instanceMethod y_TM_run,
  .selects "TaleMachine" y_TM_run y_TM_run,
  .code y_TM_run prog_1_method_6_code 4 (some .int),
  .methodLink "TaleMachine" 111 ⟨"java/lang/Math", "min", "(II)I"⟩,
  .static ⟨"java/lang/Math", "min", "(II)I"⟩,
  .code ⟨"java/lang/Math", "min", "(II)I"⟩ prog_14_method_69_code 2 (some .int),
  .methodLink "TaleMachine" 116 y_Teller_perform,
  .instanceMethod y_Teller_perform,
  .selects "TaleMachine$Teller" y_Teller_perform y_Teller_perform,
  .code y_Teller_perform prog_6_method_7_code 4 (some .boolean),
  .methodLink "TaleMachine$Teller" 93 y_Teller_top,
  .instanceMethod y_Teller_top,
  .selects "TaleMachine$Teller" y_Teller_top y_Teller_top,
  .code y_Teller_top prog_6_method_2_code 1 (some (.object "TaleMachine$Frame")),
  .methodLink "TaleMachine$Teller" 100 y_Script_instruction,
  .instanceMethod y_Script_instruction,
  .selects "TaleMachine$Script" y_Script_instruction y_Script_instruction,
  .code y_Script_instruction prog_4_method_6_code 3 (some .int),
  .methodLink "TaleMachine$Script" 19 y_Script_at,
  .instanceMethod y_Script_at,
  .selects "TaleMachine$Script" y_Script_at y_Script_at,
  .code y_Script_at prog_4_method_3_code 2 (some .int),
  .fieldLink "TaleMachine$Script" 26 "TaleMachine$Script" "LENGTHS" "[I",
  .methodLink "TaleMachine$Teller" 106 y_Script_behind,
  .instanceMethod y_Script_behind,
  .selects "TaleMachine$Script" y_Script_behind y_Script_behind,
  .code y_Script_behind prog_4_method_7_code 3 (some .int),
  .methodLink "TaleMachine$Teller" 112 y_Script_at,
  .methodLink "TaleMachine$Teller" 115 y_Teller_goOn,
  .instanceMethod y_Teller_goOn,
  .code y_Teller_goOn prog_6_method_8_code 2 (some .boolean),
  .methodLink "TaleMachine$Teller" 119 y_Teller_put,
  .instanceMethod y_Teller_put,
  .code y_Teller_put prog_6_method_9_code 4 (some .boolean),
  .methodLink "TaleMachine$Teller" 64 y_Values_add,
  .instanceMethod y_Values_add,
  .selects "TaleMachine$Values" y_Values_add y_Values_add,
  .code y_Values_add prog_7_method_3_code 3 (some .boolean),
  .methodLink "TaleMachine$Teller" 123 y_Script_number,
  .instanceMethod y_Script_number,
  .selects "TaleMachine$Script" y_Script_number y_Script_number,
  .code y_Script_number prog_4_method_5_code 2 (some .int),
  .methodLink "TaleMachine$Script" 23 y_Script_address,
  .instanceMethod y_Script_address,
  .selects "TaleMachine$Script" y_Script_address y_Script_address,
  .code y_Script_address prog_4_method_4_code 2 (some .int),
  .methodLink "TaleMachine$Teller" 126 y_World_isThere,
  .instanceMethod y_World_isThere,
  .selects "TaleMachine$World" y_World_isThere y_World_isThere,
  .code y_World_isThere prog_8_method_3_code 2 (some .boolean),
  .methodLink "TaleMachine$World" 35 y_World_isFixed,
  .instanceMethod y_World_isFixed,
  .selects "TaleMachine$World" y_World_isFixed y_World_isFixed,
  .code y_World_isFixed prog_8_method_2_code 2 (some .boolean),
  .methodLink "TaleMachine$Teller" 130 y_Script_address]
def AW_4 : List Cond := [.methodLink "TaleMachine$Teller" 133 y_Teller_isLocal,
  .instanceMethod y_Teller_isLocal,
  .code y_Teller_isLocal prog_6_method_18_code 3 (some .boolean),
  .methodLink "TaleMachine$Teller" 140 y_Teller_putCopy,
  .instanceMethod y_Teller_putCopy,
  .code y_Teller_putCopy prog_6_method_10_code 3 (some .boolean),
  .methodLink "TaleMachine$Teller" 143 y_Teller_takeIntoLocal,
  .instanceMethod y_Teller_takeIntoLocal,
  .code y_Teller_takeIntoLocal prog_6_method_19_code 3 (some .boolean),
  .methodLink "TaleMachine$Teller" 146 y_Teller_canTake,
  .instanceMethod y_Teller_canTake,
  .code y_Teller_canTake prog_6_method_12_code 3 (some .boolean),
  .methodLink "TaleMachine$Teller" 180 y_Teller_topKind,
  .instanceMethod y_Teller_topKind,
  .code y_Teller_topKind prog_6_method_14_code 1 (some .int),
  .methodLink "TaleMachine$Teller" 184 y_Teller_topInt,
  .instanceMethod y_Teller_topInt,
  .code y_Teller_topInt prog_6_method_15_code 1 (some .int),
  .methodLink "TaleMachine$Teller" 149 y_Teller_take,
  .instanceMethod y_Teller_take,
  .code y_Teller_take prog_6_method_13_code 3 (some .boolean),
  .methodLink "TaleMachine$Teller" 152 y_Teller_calculate,
  .instanceMethod y_Teller_calculate,
  .code y_Teller_calculate prog_6_method_20_code 7 (some .boolean),
  .methodLink "TaleMachine$Teller" 193 y_Teller_raise,
  .instanceMethod y_Teller_raise,
  .code y_Teller_raise prog_6_method_31_code 5 (some .boolean),
  .methodLink "TaleMachine$Teller" 269 y_World_lay,
  .instanceMethod y_World_lay,
  .selects "TaleMachine$World" y_World_lay y_World_lay,
  .code y_World_lay prog_8_method_12_code 3 none,
  .methodLink "TaleMachine$World" 63 ⟨"java/lang/System", "arraycopy", "(Ljava/lang/Object;ILjava/lang/Object;II)V"⟩,
  .static ⟨"java/lang/System", "arraycopy", "(Ljava/lang/Object;ILjava/lang/Object;II)V"⟩,
  .native ⟨"java/lang/System", "arraycopy", "(Ljava/lang/Object;ILjava/lang/Object;II)V"⟩,
  .methodLink "TaleMachine$Teller" 272 y_Teller_goal,
  .instanceMethod y_Teller_goal,
  .code y_Teller_goal prog_6_method_32_code 4 (some .int),
  .methodLink "TaleMachine$Teller" 276 y_World_inLine,
  .instanceMethod y_World_inLine,
  .selects "TaleMachine$World" y_World_inLine y_World_inLine,
  .code y_World_inLine prog_8_method_13_code 3 (some .int),
  .methodLink "TaleMachine$Teller" 265 y_Teller_finish,
  .instanceMethod y_Teller_finish,
  .code y_Teller_finish prog_6_method_5_code 4 (some .boolean),
  .methodLink "TaleMachine$Teller" 68 y_Teller_halt,
  .instanceMethod y_Teller_halt,
  .selects "TaleMachine$Teller" y_Teller_halt y_Teller_halt,
  .code y_Teller_halt prog_6_method_4_code 2 none,
  .methodLink "TaleMachine$Teller" 59 y_History_dropPoints,
  .instanceMethod y_History_dropPoints,
  .selects "TaleMachine$History" y_History_dropPoints y_History_dropPoints,
  .code y_History_dropPoints prog_3_method_7_code 1 none,
  .methodLink "TaleMachine$Teller" 161 y_Teller_putTruthFor,
  .instanceMethod y_Teller_putTruthFor,
  .code y_Teller_putTruthFor prog_6_method_11_code 4 (some .boolean),
  .methodLink "TaleMachine$Teller" 226 y_Teller_number,
  .static y_Teller_number,
  .code y_Teller_number prog_6_method_21_code 3 (some .int),
  .methodLink "TaleMachine$Teller" 155 y_Teller_like,
  .instanceMethod y_Teller_like]
def AW_5 : List Cond := [.code y_Teller_like prog_6_method_22_code 4 (some .boolean),
  .methodLink "TaleMachine$Teller" 158 y_Teller_isFalse,
  .instanceMethod y_Teller_isFalse,
  .code y_Teller_isFalse prog_6_method_17_code 2 (some .boolean),
  .methodLink "TaleMachine$Teller" 165 y_Teller_jump,
  .instanceMethod y_Teller_jump,
  .code y_Teller_jump prog_6_method_23_code 3 (some .boolean),
  .methodLink "TaleMachine$Teller" 168 y_Teller_jumpIfFalse,
  .instanceMethod y_Teller_jumpIfFalse,
  .code y_Teller_jumpIfFalse prog_6_method_24_code 4 (some .boolean),
  .methodLink "TaleMachine$Teller" 171 y_Teller_ask,
  .instanceMethod y_Teller_ask,
  .code y_Teller_ask prog_6_method_25_code 5 (some .boolean),
  .static y_TM_isProperty,
  .code y_TM_isProperty prog_1_method_14_code 1 (some .boolean),
  .methodLink "TaleMachine$Teller" 190 y_Teller_isObjectOnTop,
  .instanceMethod y_Teller_isObjectOnTop,
  .code y_Teller_isObjectOnTop prog_6_method_16_code 2 (some .boolean),
  .methodLink "TaleMachine$Teller" 232 y_World_holder,
  .instanceMethod y_World_holder,
  .selects "TaleMachine$World" y_World_holder y_World_holder,
  .code y_World_holder prog_8_method_15_code 3 (some .int),
  .methodLink "TaleMachine$World" 72 y_World_lay,
  .methodLink "TaleMachine$World" 75 y_World_holderFrom,
  .instanceMethod y_World_holderFrom,
  .code y_World_holderFrom prog_8_method_14_code 4 (some .int),
  .methodLink "TaleMachine$World" 69 y_World_ownKind,
  .instanceMethod y_World_ownKind,
  .selects "TaleMachine$World" y_World_ownKind y_World_ownKind,
  .code y_World_ownKind prog_8_method_5_code 3 (some .int),
  .methodLink "TaleMachine$Teller" 235 y_Teller_answer,
  .instanceMethod y_Teller_answer,
  .code y_Teller_answer prog_6_method_27_code 9 (some .boolean),
  .methodLink "TaleMachine$Teller" 242 y_World_ownKind,
  .methodLink "TaleMachine$Teller" 245 y_World_ownInt,
  .instanceMethod y_World_ownInt,
  .selects "TaleMachine$World" y_World_ownInt y_World_ownInt,
  .code y_World_ownInt prog_8_method_6_code 3 (some .int),
  .methodLink "TaleMachine$Teller" 55 y_Teller_enter,
  .instanceMethod y_Teller_enter,
  .code y_Teller_enter prog_6_method_28_code 8 (some .boolean),
  .methodLink "TaleMachine$Teller" 248 y_Script_isMethod,
  .instanceMethod y_Script_isMethod,
  .selects "TaleMachine$Script" y_Script_isMethod y_Script_isMethod,
  .code y_Script_isMethod prog_4_method_8_code 5 (some .boolean),
  .methodLink "TaleMachine$Teller" 251 y_Script_locals,
  .instanceMethod y_Script_locals,
  .selects "TaleMachine$Script" y_Script_locals y_Script_locals,
  .code y_Script_locals prog_4_method_9_code 2 (some .int),
  .methodLink "TaleMachine$Teller" 257 y_Script_beginning,
  .instanceMethod y_Script_beginning,
  .selects "TaleMachine$Script" y_Script_beginning y_Script_beginning,
  .code y_Script_beginning prog_4_method_10_code 2 (some .int),
  .methodLink "TaleMachine$Teller" 174 y_Teller_setOwn,
  .instanceMethod y_Teller_setOwn,
  .code y_Teller_setOwn prog_6_method_29_code 4 (some .boolean),
  .methodLink "TaleMachine$Teller" 262 y_World_setOwn,
  .instanceMethod y_World_setOwn,
  .selects "TaleMachine$World" y_World_setOwn y_World_setOwn,
  .code y_World_setOwn prog_8_method_7_code 5 none]
def AW_6 : List Cond := [.methodLink "TaleMachine$Teller" 177 y_Teller_inherited,
  .instanceMethod y_Teller_inherited,
  .code y_Teller_inherited prog_6_method_26_code 4 (some .boolean),
  .methodLink "TaleMachine$Teller" 239 y_World_holderBehind,
  .instanceMethod y_World_holderBehind,
  .selects "TaleMachine$World" y_World_holderBehind y_World_holderBehind,
  .code y_World_holderBehind prog_8_method_16_code 5 (some .int),
  .methodLink "TaleMachine$World" 78 y_World_inLine,
  .methodLink "TaleMachine$Teller" 187 y_Teller_end,
  .instanceMethod y_Teller_end,
  .code y_Teller_end prog_6_method_30_code 4 (some .boolean),
  .methodLink "TaleMachine$Teller" 196 y_Teller_make,
  .instanceMethod y_Teller_make,
  .code y_Teller_make prog_6_method_33_code 4 (some .boolean),
  .methodLink "TaleMachine$Teller" 205 y_Values_isFull,
  .instanceMethod y_Values_isFull,
  .selects "TaleMachine$Values" y_Values_isFull y_Values_isFull,
  .code y_Values_isFull prog_7_method_2_code 1 (some .boolean),
  .methodLink "TaleMachine$Teller" 279 y_World_make,
  .instanceMethod y_World_make,
  .selects "TaleMachine$World" y_World_make y_World_make,
  .code y_World_make prog_8_method_10_code 3 (some .int),
  .methodLink "TaleMachine$World" 55 y_World_clearOwn,
  .instanceMethod y_World_clearOwn,
  .code y_World_clearOwn prog_8_method_11_code 3 none,
  .methodLink "TaleMachine$World" 59 y_World_setOwn,
  .methodLink "TaleMachine$Teller" 199 y_Teller_testOf,
  .instanceMethod y_Teller_testOf,
  .code y_Teller_testOf prog_6_method_34_code 3 (some .boolean),
  .methodLink "TaleMachine$Teller" 281 y_World_descends,
  .instanceMethod y_World_descends,
  .selects "TaleMachine$World" y_World_descends y_World_descends,
  .code y_World_descends prog_8_method_17_code 3 (some .boolean),
  .methodLink "TaleMachine$World" 82 y_World_isThere,
  .methodLink "TaleMachine$Teller" 202 y_Teller_setPoint,
  .instanceMethod y_Teller_setPoint,
  .code y_Teller_setPoint prog_6_method_35_code 2 (some .boolean),
  .methodLink "TaleMachine$Teller" 284 y_History_setPoint,
  .instanceMethod y_History_setPoint,
  .selects "TaleMachine$History" y_History_setPoint y_History_setPoint,
  .code y_History_setPoint prog_3_method_2_code 2 none,
  .methodLink "TaleMachine$History" 29 y_History_dropOldest,
  .instanceMethod y_History_dropOldest,
  .code y_History_dropOldest prog_3_method_3_code 3 none,
  .methodLink "TaleMachine$History" 32 y_State_copy,
  .instanceMethod y_State_copy,
  .selects "TaleMachine$State" y_State_copy y_State_copy,
  .code y_State_copy prog_5_method_2_code 2 none,
  .methodLink "TaleMachine$State" 27 ⟨"java/lang/System", "arraycopy", "(Ljava/lang/Object;ILjava/lang/Object;II)V"⟩,
  .methodLink "TaleMachine$Teller" 213 y_History_undo,
  .instanceMethod y_History_undo,
  .selects "TaleMachine$History" y_History_undo y_History_undo,
  .code y_History_undo prog_3_method_4_code 2 (some .boolean),
  .methodLink "TaleMachine$Teller" 217 y_Teller_save,
  .instanceMethod y_Teller_save,
  .code y_Teller_save prog_6_method_36_code 3 (some .boolean),
  .methodLink "TaleMachine$Teller" 287 y_History_save,
  .instanceMethod y_History_save,
  .selects "TaleMachine$History" y_History_save y_History_save,
  .code y_History_save prog_3_method_5_code 3 none]
def AW_7 : List Cond := [.methodLink "TaleMachine$Teller" 220 y_Teller_bringBack,
  .instanceMethod y_Teller_bringBack,
  .code y_Teller_bringBack prog_6_method_37_code 3 (some .boolean),
  .methodLink "TaleMachine$Teller" 290 y_History_bringBack,
  .instanceMethod y_History_bringBack,
  .selects "TaleMachine$History" y_History_bringBack y_History_bringBack,
  .code y_History_bringBack prog_3_method_6_code 3 (some .boolean),
  .methodLink "TaleMachine" 120 y_Teller_halt,
  .methodLink "TaleMachineLaw" 72 y_TM_stop,
  .instanceMethod y_TM_stop,
  .selects "TaleMachine" y_TM_stop y_TM_stop,
  .code y_TM_stop prog_1_method_7_code 1 (some .boolean),
  .methodLink "TaleMachineLaw" 77 y_TM_collect,
  .instanceMethod y_TM_collect,
  .selects "TaleMachine" y_TM_collect y_TM_collect,
  .code y_TM_collect prog_1_method_8_code 1 (some .int),
  .methodLink "TaleMachine" 124 y_World_forgetReached,
  .instanceMethod y_World_forgetReached,
  .selects "TaleMachine$World" y_World_forgetReached y_World_forgetReached,
  .code y_World_forgetReached prog_8_method_18_code 1 none,
  .methodLink "TaleMachine" 127 y_Teller_reachRoots,
  .instanceMethod y_Teller_reachRoots,
  .selects "TaleMachine$Teller" y_Teller_reachRoots y_Teller_reachRoots,
  .code y_Teller_reachRoots prog_6_method_6_code 2 none,
  .methodLink "TaleMachine$Teller" 78 y_World_reachValue,
  .instanceMethod y_World_reachValue,
  .selects "TaleMachine$World" y_World_reachValue y_World_reachValue,
  .code y_World_reachValue prog_8_method_20_code 3 none,
  .methodLink "TaleMachine$World" 91 y_World_reach,
  .instanceMethod y_World_reach,
  .selects "TaleMachine$World" y_World_reach y_World_reach,
  .code y_World_reach prog_8_method_19_code 2 none,
  .methodLink "TaleMachine$Teller" 87 y_World_reach,
  .methodLink "TaleMachine" 130 y_World_sweep,
  .instanceMethod y_World_sweep,
  .selects "TaleMachine$World" y_World_sweep y_World_sweep,
  .code y_World_sweep prog_8_method_21_code 3 (some .int),
  .methodLink "TaleMachine$World" 94 y_World_reachFrom,
  .instanceMethod y_World_reachFrom,
  .code y_World_reachFrom prog_8_method_22_code 3 none,
  .methodLink "TaleMachine$World" 97 y_World_ownInt,
  .methodLink "TaleMachine$World" 100 y_World_reachValue,
  .methodLink "TaleMachineLaw" 95 y_TM_isOf,
  .instanceMethod y_TM_isOf,
  .selects "TaleMachine" y_TM_isOf y_TM_isOf,
  .code y_TM_isOf prog_1_method_13_code 3 (some .boolean),
  .methodLink "TaleMachine" 179 y_World_descends,
  .methodLink "TaleMachineLaw" 50 y_Law_object,
  .static y_Law_object,
  .codeWith y_Law_object method_3_code 6 (some .int) [(0, 12, 15, 13), (0, 12, 19, 15)],
  .classLink "TaleMachineLaw" 13 "java/lang/IllegalArgumentException",
  .classLink "TaleMachineLaw" 15 "java/lang/IllegalStateException",
  .methodLink "TaleMachineLaw" 7 y_TM_object,
  .instanceMethod y_TM_object,
  .selects "TaleMachine" y_TM_object y_TM_object,
  .code y_TM_object prog_1_method_3_code 5 (some .int),
  .methodLink "TaleMachine" 43 y_World_isFixed,
  .classLink "TaleMachine" 47 "java/lang/IllegalArgumentException",
  .instantiable "java/lang/IllegalArgumentException" 6,
  .selects "java/lang/IllegalArgumentException" ⟨"java/lang/Throwable", "fillInStackTrace", "(I)Ljava/lang/Throwable;"⟩ ⟨"java/lang/Throwable", "fillInStackTrace", "(I)Ljava/lang/Throwable;"⟩]
def AW_8 : List Cond := [.selects "java/lang/IllegalArgumentException" ⟨"java/lang/Throwable", "fillInStackTrace", "()Ljava/lang/Throwable;"⟩ ⟨"java/lang/Throwable", "fillInStackTrace", "()Ljava/lang/Throwable;"⟩,
  .lays "java/lang/IllegalArgumentException" "java/lang/Throwable" "cause" "Ljava/lang/Throwable;",
  .lays "java/lang/Throwable" "java/lang/Throwable" "cause" "Ljava/lang/Throwable;",
  .lays "java/lang/IllegalArgumentException" "java/lang/Throwable" "stackTrace" "[Ljava/lang/StackTraceElement;",
  .lays "java/lang/Throwable" "java/lang/Throwable" "stackTrace" "[Ljava/lang/StackTraceElement;",
  .lays "java/lang/IllegalArgumentException" "java/lang/Throwable" "suppressedExceptions" "Ljava/util/List;",
  .lays "java/lang/Throwable" "java/lang/Throwable" "suppressedExceptions" "Ljava/util/List;",
  .lays "java/lang/IllegalArgumentException" "java/lang/Throwable" "detailMessage" "Ljava/lang/String;",
  .lays "java/lang/Throwable" "java/lang/Throwable" "detailMessage" "Ljava/lang/String;",
  .lays "java/lang/IllegalArgumentException" "java/lang/Throwable" "backtrace" "Ljava/lang/Object;",
  .lays "java/lang/Throwable" "java/lang/Throwable" "backtrace" "Ljava/lang/Object;",
  .fieldLink "java/lang/Throwable" 198 "java/lang/Throwable" "backtrace" "Ljava/lang/Object;",
  .instanceMethod ⟨"java/lang/Throwable", "<init>", "()V"⟩,
  .code ⟨"java/lang/Throwable", "<init>", "()V"⟩ prog_18_method_1_code 1 none,
  .methodLink "java/lang/Throwable" 1 objectInit,
  .fieldLink "java/lang/Throwable" 13 "java/lang/Throwable" "UNASSIGNED_STACK" "[Ljava/lang/StackTraceElement;",
  .fieldLink "java/lang/Throwable" 20 "java/lang/Throwable" "SUPPRESSED_SENTINEL" "Ljava/util/List;",
  .methodLink "java/lang/Throwable" 27 ⟨"java/lang/Throwable", "fillInStackTrace", "()Ljava/lang/Throwable;"⟩,
  .instanceMethod ⟨"java/lang/Throwable", "fillInStackTrace", "()Ljava/lang/Throwable;"⟩,
  .selects "java/lang/IllegalStateException" ⟨"java/lang/Throwable", "fillInStackTrace", "()Ljava/lang/Throwable;"⟩ ⟨"java/lang/Throwable", "fillInStackTrace", "()Ljava/lang/Throwable;"⟩,
  .selects "java/util/NoSuchElementException" ⟨"java/lang/Throwable", "fillInStackTrace", "()Ljava/lang/Throwable;"⟩ ⟨"java/lang/Throwable", "fillInStackTrace", "()Ljava/lang/Throwable;"⟩,
  .methodLink "java/lang/Throwable" 202 ⟨"java/lang/Throwable", "fillInStackTrace", "(I)Ljava/lang/Throwable;"⟩,
  .instanceMethod ⟨"java/lang/Throwable", "fillInStackTrace", "(I)Ljava/lang/Throwable;"⟩,
  .instantiable "java/lang/Throwable" 6,
  .native ⟨"java/lang/Throwable", "fillInStackTrace", "(I)Ljava/lang/Throwable;"⟩,
  .methodLink "TaleMachine" 51 ⟨"java/lang/IllegalArgumentException", "<init>", "(Ljava/lang/String;)V"⟩,
  .instanceMethod ⟨"java/lang/IllegalArgumentException", "<init>", "(Ljava/lang/String;)V"⟩,
  .code ⟨"java/lang/IllegalArgumentException", "<init>", "(Ljava/lang/String;)V"⟩ prog_12_method_2_code 2 none,
  .methodLink "java/lang/IllegalArgumentException" 7 ⟨"java/lang/RuntimeException", "<init>", "(Ljava/lang/String;)V"⟩,
  .instanceMethod ⟨"java/lang/RuntimeException", "<init>", "(Ljava/lang/String;)V"⟩,
  .code ⟨"java/lang/RuntimeException", "<init>", "(Ljava/lang/String;)V"⟩ prog_15_method_2_code 2 none,
  .methodLink "java/lang/RuntimeException" 7 ⟨"java/lang/Exception", "<init>", "(Ljava/lang/String;)V"⟩,
  .instanceMethod ⟨"java/lang/Exception", "<init>", "(Ljava/lang/String;)V"⟩,
  .code ⟨"java/lang/Exception", "<init>", "(Ljava/lang/String;)V"⟩ prog_11_method_2_code 2 none,
  .methodLink "java/lang/Exception" 7 ⟨"java/lang/Throwable", "<init>", "(Ljava/lang/String;)V"⟩,
  .instanceMethod ⟨"java/lang/Throwable", "<init>", "(Ljava/lang/String;)V"⟩,
  .code ⟨"java/lang/Throwable", "<init>", "(Ljava/lang/String;)V"⟩ prog_18_method_2_code 2 none,
  .fieldLink "java/lang/Throwable" 31 "java/lang/Throwable" "detailMessage" "Ljava/lang/String;",
  .fieldLink "java/lang/Throwable" 7 "java/lang/Throwable" "cause" "Ljava/lang/Throwable;",
  .fieldLink "java/lang/Throwable" 17 "java/lang/Throwable" "stackTrace" "[Ljava/lang/StackTraceElement;",
  .fieldLink "java/lang/Throwable" 24 "java/lang/Throwable" "suppressedExceptions" "Ljava/util/List;",
  .lays "java/lang/IllegalArgumentException" "java/lang/Throwable" "depth" "I",
  .arrayClass .byte,
  .classLink "TaleMachine" 61 "java/lang/IllegalStateException",
  .instantiable "java/lang/IllegalStateException" 6,
  .selects "java/lang/IllegalStateException" ⟨"java/lang/Throwable", "fillInStackTrace", "(I)Ljava/lang/Throwable;"⟩ ⟨"java/lang/Throwable", "fillInStackTrace", "(I)Ljava/lang/Throwable;"⟩,
  .lays "java/lang/IllegalStateException" "java/lang/Throwable" "cause" "Ljava/lang/Throwable;",
  .lays "java/lang/IllegalStateException" "java/lang/Throwable" "stackTrace" "[Ljava/lang/StackTraceElement;",
  .lays "java/lang/IllegalStateException" "java/lang/Throwable" "suppressedExceptions" "Ljava/util/List;",
  .lays "java/lang/IllegalStateException" "java/lang/Throwable" "detailMessage" "Ljava/lang/String;",
  .lays "java/lang/IllegalStateException" "java/lang/Throwable" "backtrace" "Ljava/lang/Object;",
  .methodLink "TaleMachine" 65 ⟨"java/lang/IllegalStateException", "<init>", "(Ljava/lang/String;)V"⟩,
  .instanceMethod ⟨"java/lang/IllegalStateException", "<init>", "(Ljava/lang/String;)V"⟩,
  .code ⟨"java/lang/IllegalStateException", "<init>", "(Ljava/lang/String;)V"⟩ prog_13_method_2_code 2 none,
  .methodLink "java/lang/IllegalStateException" 7 ⟨"java/lang/RuntimeException", "<init>", "(Ljava/lang/String;)V"⟩,
  .lays "java/lang/IllegalStateException" "java/lang/Throwable" "depth" "I",
  .methodLink "TaleMachine" 66 y_History_dropSaved,
  .instanceMethod y_History_dropSaved,
  .selects "TaleMachine$History" y_History_dropSaved y_History_dropSaved,
  .code y_History_dropSaved prog_3_method_8_code 2 none]
def AW_9 : List Cond := [.methodLink "TaleMachine" 69 y_World_fix,
  .instanceMethod y_World_fix,
  .selects "TaleMachine$World" y_World_fix y_World_fix,
  .code y_World_fix prog_8_method_8_code 8 (some .int),
  .methodLink "TaleMachine$World" 51 y_World_gather,
  .instanceMethod y_World_gather,
  .code y_World_gather prog_8_method_9_code 6 (some .int),
  .methodLink "TaleMachineLaw" 56 y_Law_property,
  .static y_Law_property,
  .codeWith y_Law_property method_4_code 6 (some .int) [(0, 9, 12, 21), (0, 9, 16, 13), (0, 9, 20, 15)],
  .classLink "TaleMachineLaw" 21 "java/util/NoSuchElementException",
  .methodLink "TaleMachineLaw" 17 y_TM_property,
  .instanceMethod y_TM_property,
  .selects "TaleMachine" y_TM_property y_TM_property,
  .code y_TM_property prog_1_method_4_code 5 none,
  .methodLink "TaleMachine" 73 y_World_isThere,
  .classLink "TaleMachine" 76 "java/util/NoSuchElementException",
  .instantiable "java/util/NoSuchElementException" 6,
  .selects "java/util/NoSuchElementException" ⟨"java/lang/Throwable", "fillInStackTrace", "(I)Ljava/lang/Throwable;"⟩ ⟨"java/lang/Throwable", "fillInStackTrace", "(I)Ljava/lang/Throwable;"⟩,
  .lays "java/util/NoSuchElementException" "java/lang/Throwable" "cause" "Ljava/lang/Throwable;",
  .lays "java/util/NoSuchElementException" "java/lang/Throwable" "stackTrace" "[Ljava/lang/StackTraceElement;",
  .lays "java/util/NoSuchElementException" "java/lang/Throwable" "suppressedExceptions" "Ljava/util/List;",
  .lays "java/util/NoSuchElementException" "java/lang/Throwable" "detailMessage" "Ljava/lang/String;",
  .lays "java/util/NoSuchElementException" "java/lang/Throwable" "backtrace" "Ljava/lang/Object;",
  .methodLink "TaleMachine" 80 ⟨"java/util/NoSuchElementException", "<init>", "(Ljava/lang/String;)V"⟩,
  .instanceMethod ⟨"java/util/NoSuchElementException", "<init>", "(Ljava/lang/String;)V"⟩,
  .code ⟨"java/util/NoSuchElementException", "<init>", "(Ljava/lang/String;)V"⟩ prog_20_method_4_code 2 none,
  .methodLink "java/util/NoSuchElementException" 13 ⟨"java/lang/RuntimeException", "<init>", "(Ljava/lang/String;)V"⟩,
  .lays "java/util/NoSuchElementException" "java/lang/Throwable" "depth" "I",
  .methodLink "TaleMachine" 81 y_TM_isProperty,
  .methodLink "TaleMachine" 88 y_World_setOwn,
  .methodLink "TaleMachineLaw" 60 y_Law_begin,
  .static y_Law_begin,
  .codeWith y_Law_begin method_5_code 4 (some .int) [(0, 6, 9, 21), (0, 6, 12, 13), (0, 6, 15, 15)],
  .methodLink "TaleMachineLaw" 23 y_TM_begin,
  .instanceMethod y_TM_begin,
  .selects "TaleMachine" y_TM_begin y_TM_begin,
  .code y_TM_begin prog_1_method_5_code 4 none,
  .methodLink "TaleMachine" 92 y_World_holder,
  .methodLink "TaleMachine" 96 y_World_ownKind,
  .methodLink "TaleMachine" 99 y_World_ownInt,
  .methodLink "TaleMachine" 102 y_Script_isMethod,
  .methodLink "TaleMachine" 107 y_Teller_start,
  .instanceMethod y_Teller_start,
  .selects "TaleMachine$Teller" y_Teller_start y_Teller_start,
  .code y_Teller_start prog_6_method_3_code 4 none,
  .methodLink "TaleMachineLaw" 81 y_Law_stack,
  .static y_Law_stack,
  .codeWith y_Law_stack method_6_code 5 (some .int) [(0, 10, 13, 21)],
  .methodLink "TaleMachineLaw" 27 y_TM_stack,
  .instanceMethod y_TM_stack,
  .selects "TaleMachine" y_TM_stack y_TM_stack,
  .code y_TM_stack prog_1_method_9_code 3 (some .int),
  .methodLink "TaleMachine" 138 y_TM_part,
  .static y_TM_part,
  .code y_TM_part prog_1_method_15_code 3 (some .int),
  .methodLink "TaleMachineLaw" 85 y_Law_show,
  .static y_Law_show,
  .codeWith y_Law_show method_7_code 4 (some .int) [(0, 9, 12, 21)],
  .methodLink "TaleMachineLaw" 31 y_TM_show]
def AW_10 : List Cond := [.instanceMethod y_TM_show,
  .selects "TaleMachine" y_TM_show y_TM_show,
  .code y_TM_show prog_1_method_10_code 2 (some .int),
  .methodLink "TaleMachine" 147 y_Teller_top,
  .methodLink "TaleMachine" 162 y_World_count,
  .instanceMethod y_World_count,
  .selects "TaleMachine$World" y_World_count y_World_count,
  .code y_World_count prog_8_method_4_code 3 (some .int),
  .methodLink "TaleMachineLaw" 89 y_Law_said,
  .static y_Law_said,
  .codeWith y_Law_said method_8_code 5 (some .int) [(0, 10, 13, 21)],
  .methodLink "TaleMachineLaw" 35 y_TM_said,
  .instanceMethod y_TM_said,
  .selects "TaleMachine" y_TM_said y_TM_said,
  .code y_TM_said prog_1_method_11_code 3 (some .int),
  .methodLink "TaleMachineLaw" 92 y_Law_has,
  .static y_Law_has,
  .codeWith y_Law_has method_9_code 6 (some .int) [(0, 12, 15, 21)],
  .methodLink "TaleMachineLaw" 38 y_TM_has,
  .instanceMethod y_TM_has,
  .selects "TaleMachine" y_TM_has y_TM_has,
  .code y_TM_has prog_1_method_12_code 5 (some .int),
  .classLink "TaleMachineLaw" 42 "TaleMachineModel",
  .instantiable "TaleMachineModel" 31,
  .methodLink "TaleMachineLaw" 44 y_Model_init,
  .instanceMethod y_Model_init,
  .code y_Model_init prog_10_method_1_code 1 none,
  .methodLink "TaleMachineModel" 1 objectInit,
  .fieldLink "TaleMachineModel" 75 "TaleMachineModel" "code" "I",
  .fieldLink "TaleMachineModel" 7 "TaleMachineModel" "bytes" "[I",
  .fieldLink "TaleMachineModel" 104 "TaleMachineModel" "size" "I",
  .fieldLink "TaleMachineModel" 13 "TaleMachineModel" "w" "[I",
  .fieldLink "TaleMachineModel" 114 "TaleMachineModel" "fixed" "I",
  .fieldLink "TaleMachineModel" 153 "TaleMachineModel" "points" "I",
  .fieldLink "TaleMachineModel" 16 "TaleMachineModel" "saved" "[Z",
  .fieldLink "TaleMachineModel" 86 "TaleMachineModel" "length" "I",
  .fieldLink "TaleMachineModel" 20 "TaleMachineModel" "line" "[I",
  .fieldLink "TaleMachineModel" 23 "TaleMachineModel" "met" "[Z",
  .fieldLink "TaleMachineModel" 26 "TaleMachineModel" "waiting" "[I",
  .fieldLink "TaleMachineModel" 29 "TaleMachineModel" "nextParent" "[I",
  .fieldLink "TaleMachineModel" 130 "TaleMachineModel" "height" "I",
  .fieldLink "TaleMachineModel" 32 "TaleMachineModel" "kind" "[I",
  .fieldLink "TaleMachineModel" 35 "TaleMachineModel" "number" "[I",
  .fieldLink "TaleMachineModel" 127 "TaleMachineModel" "depth" "I",
  .fieldLink "TaleMachineModel" 38 "TaleMachineModel" "begin" "[I",
  .fieldLink "TaleMachineModel" 41 "TaleMachineModel" "table" "[I",
  .fieldLink "TaleMachineModel" 44 "TaleMachineModel" "handlers" "[I",
  .fieldLink "TaleMachineModel" 47 "TaleMachineModel" "base" "[I",
  .fieldLink "TaleMachineModel" 50 "TaleMachineModel" "locals" "[I",
  .fieldLink "TaleMachineModel" 53 "TaleMachineModel" "self" "[I",
  .fieldLink "TaleMachineModel" 56 "TaleMachineModel" "found" "[I",
  .fieldLink "TaleMachineModel" 59 "TaleMachineModel" "place" "[I",
  .fieldLink "TaleMachineModel" 62 "TaleMachineModel" "next" "[I",
  .fieldLink "TaleMachineModel" 144 "TaleMachineModel" "said" "I",
  .fieldLink "TaleMachineModel" 65 "TaleMachineModel" "saidKind" "[I",
  .fieldLink "TaleMachineModel" 68 "TaleMachineModel" "saidNumber" "[I",
  .fieldLink "TaleMachineModel" 147 "TaleMachineModel" "resultKind" "I",
  .fieldLink "TaleMachineModel" 150 "TaleMachineModel" "resultNumber" "I",
  .fieldLink "TaleMachineModel" 71 "TaleMachineModel" "ended" "I",
  .lays "TaleMachineModel" "TaleMachineModel" "code" "I"]
def AW_11 : List Cond := [.laysFinal "TaleMachineModel" "TaleMachineModel" "bytes" "[I",
  .lays "TaleMachineModel" "TaleMachineModel" "size" "I",
  .laysFinal "TaleMachineModel" "TaleMachineModel" "w" "[I",
  .lays "TaleMachineModel" "TaleMachineModel" "fixed" "I",
  .lays "TaleMachineModel" "TaleMachineModel" "points" "I",
  .laysFinal "TaleMachineModel" "TaleMachineModel" "saved" "[Z",
  .lays "TaleMachineModel" "TaleMachineModel" "length" "I",
  .laysFinal "TaleMachineModel" "TaleMachineModel" "line" "[I",
  .laysFinal "TaleMachineModel" "TaleMachineModel" "met" "[Z",
  .laysFinal "TaleMachineModel" "TaleMachineModel" "waiting" "[I",
  .laysFinal "TaleMachineModel" "TaleMachineModel" "nextParent" "[I",
  .lays "TaleMachineModel" "TaleMachineModel" "height" "I",
  .laysFinal "TaleMachineModel" "TaleMachineModel" "kind" "[I",
  .laysFinal "TaleMachineModel" "TaleMachineModel" "number" "[I",
  .lays "TaleMachineModel" "TaleMachineModel" "depth" "I",
  .laysFinal "TaleMachineModel" "TaleMachineModel" "begin" "[I",
  .laysFinal "TaleMachineModel" "TaleMachineModel" "table" "[I",
  .laysFinal "TaleMachineModel" "TaleMachineModel" "handlers" "[I",
  .laysFinal "TaleMachineModel" "TaleMachineModel" "base" "[I",
  .laysFinal "TaleMachineModel" "TaleMachineModel" "locals" "[I",
  .laysFinal "TaleMachineModel" "TaleMachineModel" "self" "[I",
  .laysFinal "TaleMachineModel" "TaleMachineModel" "found" "[I",
  .laysFinal "TaleMachineModel" "TaleMachineModel" "place" "[I",
  .laysFinal "TaleMachineModel" "TaleMachineModel" "next" "[I",
  .lays "TaleMachineModel" "TaleMachineModel" "said" "I",
  .laysFinal "TaleMachineModel" "TaleMachineModel" "saidKind" "[I",
  .laysFinal "TaleMachineModel" "TaleMachineModel" "saidNumber" "[I",
  .lays "TaleMachineModel" "TaleMachineModel" "resultKind" "I",
  .lays "TaleMachineModel" "TaleMachineModel" "resultNumber" "I",
  .lays "TaleMachineModel" "TaleMachineModel" "ended" "I",
  .methodLink "TaleMachineLaw" 64 y_Model_thrown,
  .instanceMethod y_Model_thrown,
  .selects "TaleMachineModel" y_Model_thrown y_Model_thrown,
  .code y_Model_thrown prog_10_method_2_code 1 (some .int),
  .methodLink "TaleMachineLaw" 49 y_Model_code,
  .instanceMethod y_Model_code,
  .selects "TaleMachineModel" y_Model_code y_Model_code,
  .code y_Model_code prog_10_method_16_code 4 (some .boolean),
  .methodLink "TaleMachineModel" 78 y_Model_outside,
  .static y_Model_outside,
  .code y_Model_outside prog_10_method_4_code 3 (some .boolean),
  .methodLink "TaleMachineLaw" 55 y_Model_object,
  .instanceMethod y_Model_object,
  .selects "TaleMachineModel" y_Model_object y_Model_object,
  .code y_Model_object prog_10_method_18_code 6 (some .int),
  .methodLink "TaleMachineModel" 111 y_Model_isParent,
  .instanceMethod y_Model_isParent,
  .code y_Model_isParent prog_10_method_17_code 2 (some .boolean),
  .methodLink "TaleMachineModel" 107 y_Model_isThere,
  .instanceMethod y_Model_isThere,
  .code y_Model_isThere prog_10_method_5_code 2 (some .boolean),
  .methodLink "TaleMachineModel" 117 y_Model_empty,
  .instanceMethod y_Model_empty,
  .code y_Model_empty prog_10_method_11_code 3 none,
  .methodLink "TaleMachineModel" 82 y_Model_placeOf,
  .instanceMethod y_Model_placeOf,
  .code y_Model_placeOf prog_10_method_8_code 3 (some .int),
  .methodLink "TaleMachineLaw" 59 y_Model_property,
  .instanceMethod y_Model_property,
  .selects "TaleMachineModel" y_Model_property y_Model_property]
def AW_12 : List Cond := [.code y_Model_property prog_10_method_19_code 6 none,
  .methodLink "TaleMachineModel" 120 y_Model_give,
  .instanceMethod y_Model_give,
  .code y_Model_give prog_10_method_10_code 6 none,
  .methodLink "TaleMachineLaw" 63 y_Model_begin,
  .instanceMethod y_Model_begin,
  .selects "TaleMachineModel" y_Model_begin y_Model_begin,
  .code y_Model_begin prog_10_method_24_code 5 none,
  .methodLink "TaleMachineModel" 137 y_Model_owner,
  .instanceMethod y_Model_owner,
  .code y_Model_owner prog_10_method_14_code 6 (some .int),
  .methodLink "TaleMachineModel" 96 y_Model_findLine,
  .instanceMethod y_Model_findLine,
  .code y_Model_findLine prog_10_method_13_code 6 none,
  .methodLink "TaleMachineModel" 89 y_Model_parents,
  .instanceMethod y_Model_parents,
  .code y_Model_parents prog_10_method_6_code 2 (some .int),
  .methodLink "TaleMachineModel" 93 y_Model_parent,
  .instanceMethod y_Model_parent,
  .code y_Model_parent prog_10_method_7_code 3 (some .int),
  .methodLink "TaleMachineModel" 100 y_Model_hasOwn,
  .instanceMethod y_Model_hasOwn,
  .code y_Model_hasOwn prog_10_method_9_code 3 (some .boolean),
  .methodLink "TaleMachineModel" 141 y_Model_sound,
  .instanceMethod y_Model_sound,
  .code y_Model_sound prog_10_method_22_code 3 (some .boolean),
  .methodLink "TaleMachineModel" 124 y_Model_at,
  .instanceMethod y_Model_at,
  .code y_Model_at prog_10_method_20_code 2 (some .int),
  .methodLink "TaleMachineModel" 156 y_Model_enter,
  .instanceMethod y_Model_enter,
  .code y_Model_enter prog_10_method_23_code 6 none,
  .methodLink "TaleMachineModel" 133 y_Model_push,
  .instanceMethod y_Model_push,
  .code y_Model_push prog_10_method_28_code 3 none,
  .methodLink "TaleMachineLaw" 71 y_Model_run,
  .instanceMethod y_Model_run,
  .selects "TaleMachineModel" y_Model_run y_Model_run,
  .code y_Model_run prog_10_method_26_code 3 (some .int),
  .methodLink "TaleMachineModel" 159 y_Model_one,
  .instanceMethod y_Model_one,
  .code y_Model_one prog_10_method_34_code 6 (some .boolean),
  .methodLink "TaleMachineModel" 166 y_Model_lengthOf,
  .static y_Model_lengthOf,
  .code y_Model_lengthOf prog_10_method_33_code 2 (some .int),
  .methodLink "TaleMachineModel" 169 y_Model_putting,
  .instanceMethod y_Model_putting,
  .code y_Model_putting prog_10_method_35_code 8 (some .boolean),
  .methodLink "TaleMachineModel" 181 y_Model_taken,
  .instanceMethod y_Model_taken,
  .code y_Model_taken prog_10_method_30_code 1 (some .int),
  .methodLink "TaleMachineModel" 185 y_Model_signed,
  .instanceMethod y_Model_signed,
  .code y_Model_signed prog_10_method_36_code 2 (some .int),
  .methodLink "TaleMachineModel" 188 y_Model_two,
  .instanceMethod y_Model_two,
  .code y_Model_two prog_10_method_21_code 2 (some .int),
  .methodLink "TaleMachineModel" 172 y_Model_reckoning,
  .instanceMethod y_Model_reckoning,
  .code y_Model_reckoning prog_10_method_37_code 7 (some .boolean)]
def AW_13 : List Cond := [.methodLink "TaleMachineModel" 191 y_Model_isFalse,
  .instanceMethod y_Model_isFalse,
  .code y_Model_isFalse prog_10_method_31_code 2 (some .boolean),
  .methodLink "TaleMachineModel" 194 y_Model_truth,
  .instanceMethod y_Model_truth,
  .code y_Model_truth prog_10_method_29_code 2 (some .boolean),
  .methodLink "TaleMachineModel" 198 y_Model_toss,
  .instanceMethod y_Model_toss,
  .code y_Model_toss prog_10_method_44_code 4 (some .boolean),
  .methodLink "TaleMachineModel" 220 y_Model_handler,
  .instanceMethod y_Model_handler,
  .code y_Model_handler prog_10_method_43_code 5 (some .int),
  .methodLink "TaleMachineModel" 217 y_Model_belongs,
  .instanceMethod y_Model_belongs,
  .code y_Model_belongs prog_10_method_15_code 7 (some .boolean),
  .methodLink "TaleMachineModel" 163 y_Model_over,
  .instanceMethod y_Model_over,
  .code y_Model_over prog_10_method_25_code 2 (some .int),
  .methodLink "TaleMachineModel" 175 y_Model_going,
  .instanceMethod y_Model_going,
  .code y_Model_going prog_10_method_38_code 5 (some .boolean),
  .methodLink "TaleMachineModel" 201 y_Model_isObject,
  .instanceMethod y_Model_isObject,
  .code y_Model_isObject prog_10_method_32_code 2 (some .boolean),
  .methodLink "TaleMachineModel" 204 y_Model_ask,
  .instanceMethod y_Model_ask,
  .code y_Model_ask prog_10_method_41_code 7 (some .boolean),
  .methodLink "TaleMachineModel" 211 y_Model_call,
  .instanceMethod y_Model_call,
  .code y_Model_call prog_10_method_40_code 6 (some .boolean),
  .methodLink "TaleMachineModel" 208 y_Model_assign,
  .instanceMethod y_Model_assign,
  .code y_Model_assign prog_10_method_39_code 2 (some .boolean),
  .methodLink "TaleMachineModel" 214 y_Model_end,
  .instanceMethod y_Model_end,
  .code y_Model_end prog_10_method_42_code 4 (some .boolean),
  .methodLink "TaleMachineModel" 178 y_Model_world,
  .instanceMethod y_Model_world,
  .code y_Model_world prog_10_method_45_code 7 (some .boolean),
  .methodLink "TaleMachineModel" 223 y_Model_make,
  .instanceMethod y_Model_make,
  .code y_Model_make prog_10_method_46_code 3 (some .boolean),
  .methodLink "TaleMachineModel" 226 y_Model_point,
  .instanceMethod y_Model_point,
  .code y_Model_point prog_10_method_47_code 1 (some .boolean),
  .methodLink "TaleMachineModel" 229 y_Model_copy,
  .instanceMethod y_Model_copy,
  .code y_Model_copy prog_10_method_12_code 4 none,
  .methodLink "TaleMachineLaw" 76 y_Model_stop,
  .instanceMethod y_Model_stop,
  .selects "TaleMachineModel" y_Model_stop y_Model_stop,
  .code y_Model_stop prog_10_method_27_code 1 (some .boolean),
  .methodLink "TaleMachineLaw" 80 y_Model_collect,
  .instanceMethod y_Model_collect,
  .selects "TaleMachineModel" y_Model_collect y_Model_collect,
  .code y_Model_collect prog_10_method_50_code 6 (some .int),
  .methodLink "TaleMachineModel" 232 y_Model_mark,
  .instanceMethod y_Model_mark,
  .code y_Model_mark prog_10_method_48_code 4 (some .int),
  .methodLink "TaleMachineModel" 235 y_Model_spread]
def AW_14 : List Cond := [.instanceMethod y_Model_spread,
  .code y_Model_spread prog_10_method_49_code 6 (some .int),
  .methodLink "TaleMachineLaw" 84 y_Model_stack,
  .instanceMethod y_Model_stack,
  .selects "TaleMachineModel" y_Model_stack y_Model_stack,
  .code y_Model_stack prog_10_method_51_code 3 (some .int),
  .methodLink "TaleMachineModel" 238 y_Model_refuse,
  .instanceMethod y_Model_refuse,
  .code y_Model_refuse prog_10_method_3_code 2 (some .int),
  .methodLink "TaleMachineLaw" 88 y_Model_show,
  .instanceMethod y_Model_show,
  .selects "TaleMachineModel" y_Model_show y_Model_show,
  .code y_Model_show prog_10_method_52_code 4 (some .int),
  .methodLink "TaleMachineLaw" 91 y_Model_said,
  .instanceMethod y_Model_said,
  .selects "TaleMachineModel" y_Model_said y_Model_said,
  .code y_Model_said prog_10_method_53_code 3 (some .int),
  .methodLink "TaleMachineLaw" 94 y_Model_has,
  .instanceMethod y_Model_has,
  .selects "TaleMachineModel" y_Model_has y_Model_has,
  .code y_Model_has prog_10_method_54_code 5 (some .int),
  .methodLink "TaleMachineLaw" 98 y_Model_isOf,
  .instanceMethod y_Model_isOf,
  .selects "TaleMachineModel" y_Model_isOf y_Model_isOf,
  .code y_Model_isOf prog_10_method_55_code 3 (some .boolean),
  .arrayClass .long,
  .selects "TaleMachine$Teller" y_Teller_goOn y_Teller_goOn,
  .selects "TaleMachine$Teller" y_Teller_put y_Teller_put,
  .selects "TaleMachine$Teller" y_Teller_isLocal y_Teller_isLocal,
  .selects "TaleMachine$Teller" y_Teller_putCopy y_Teller_putCopy,
  .selects "TaleMachine$Teller" y_Teller_takeIntoLocal y_Teller_takeIntoLocal,
  .selects "TaleMachine$Teller" y_Teller_canTake y_Teller_canTake,
  .selects "TaleMachine$Teller" y_Teller_topKind y_Teller_topKind,
  .selects "TaleMachine$Teller" y_Teller_topInt y_Teller_topInt,
  .selects "TaleMachine$Teller" y_Teller_take y_Teller_take,
  .selects "TaleMachine$Teller" y_Teller_calculate y_Teller_calculate,
  .selects "TaleMachine$Teller" y_Teller_raise y_Teller_raise,
  .selects "TaleMachine$Teller" y_Teller_goal y_Teller_goal,
  .selects "TaleMachine$Teller" y_Teller_finish y_Teller_finish,
  .selects "TaleMachine$Teller" y_Teller_putTruthFor y_Teller_putTruthFor,
  .selects "TaleMachine$Teller" y_Teller_like y_Teller_like,
  .selects "TaleMachine$Teller" y_Teller_isFalse y_Teller_isFalse,
  .selects "TaleMachine$Teller" y_Teller_jump y_Teller_jump,
  .selects "TaleMachine$Teller" y_Teller_jumpIfFalse y_Teller_jumpIfFalse,
  .selects "TaleMachine$Teller" y_Teller_ask y_Teller_ask,
  .selects "TaleMachine$Teller" y_Teller_isObjectOnTop y_Teller_isObjectOnTop,
  .selects "TaleMachine$World" y_World_holderFrom y_World_holderFrom,
  .selects "TaleMachine$Teller" y_Teller_answer y_Teller_answer,
  .selects "TaleMachine$Teller" y_Teller_enter y_Teller_enter,
  .selects "TaleMachine$Teller" y_Teller_setOwn y_Teller_setOwn,
  .selects "TaleMachine$Teller" y_Teller_inherited y_Teller_inherited,
  .selects "TaleMachine$Teller" y_Teller_end y_Teller_end,
  .selects "TaleMachine$Teller" y_Teller_make y_Teller_make,
  .selects "TaleMachine$World" y_World_clearOwn y_World_clearOwn,
  .selects "TaleMachine$Teller" y_Teller_testOf y_Teller_testOf,
  .selects "TaleMachine$Teller" y_Teller_setPoint y_Teller_setPoint,
  .selects "TaleMachine$History" y_History_dropOldest y_History_dropOldest,
  .selects "TaleMachine$Teller" y_Teller_save y_Teller_save,
  .selects "TaleMachine$Teller" y_Teller_bringBack y_Teller_bringBack,
  .selects "TaleMachine$World" y_World_reachFrom y_World_reachFrom]
def AW_15 : List Cond := [.selects "java/lang/Throwable" ⟨"java/lang/Throwable", "fillInStackTrace", "(I)Ljava/lang/Throwable;"⟩ ⟨"java/lang/Throwable", "fillInStackTrace", "(I)Ljava/lang/Throwable;"⟩,
  .selects "TaleMachine$World" y_World_gather y_World_gather,
  .selects "TaleMachineModel" y_Model_isParent y_Model_isParent,
  .selects "TaleMachineModel" y_Model_isThere y_Model_isThere,
  .selects "TaleMachineModel" y_Model_empty y_Model_empty,
  .selects "TaleMachineModel" y_Model_placeOf y_Model_placeOf,
  .selects "TaleMachineModel" y_Model_give y_Model_give,
  .selects "TaleMachineModel" y_Model_owner y_Model_owner,
  .selects "TaleMachineModel" y_Model_findLine y_Model_findLine,
  .selects "TaleMachineModel" y_Model_parents y_Model_parents,
  .selects "TaleMachineModel" y_Model_parent y_Model_parent,
  .selects "TaleMachineModel" y_Model_hasOwn y_Model_hasOwn,
  .selects "TaleMachineModel" y_Model_sound y_Model_sound,
  .selects "TaleMachineModel" y_Model_at y_Model_at,
  .selects "TaleMachineModel" y_Model_enter y_Model_enter,
  .selects "TaleMachineModel" y_Model_push y_Model_push,
  .selects "TaleMachineModel" y_Model_one y_Model_one,
  .selects "TaleMachineModel" y_Model_putting y_Model_putting,
  .selects "TaleMachineModel" y_Model_taken y_Model_taken,
  .selects "TaleMachineModel" y_Model_signed y_Model_signed,
  .selects "TaleMachineModel" y_Model_two y_Model_two,
  .selects "TaleMachineModel" y_Model_reckoning y_Model_reckoning,
  .selects "TaleMachineModel" y_Model_isFalse y_Model_isFalse,
  .selects "TaleMachineModel" y_Model_truth y_Model_truth,
  .selects "TaleMachineModel" y_Model_toss y_Model_toss,
  .selects "TaleMachineModel" y_Model_handler y_Model_handler,
  .selects "TaleMachineModel" y_Model_belongs y_Model_belongs,
  .selects "TaleMachineModel" y_Model_over y_Model_over,
  .selects "TaleMachineModel" y_Model_going y_Model_going,
  .selects "TaleMachineModel" y_Model_isObject y_Model_isObject,
  .selects "TaleMachineModel" y_Model_ask y_Model_ask,
  .selects "TaleMachineModel" y_Model_call y_Model_call,
  .selects "TaleMachineModel" y_Model_assign y_Model_assign,
  .selects "TaleMachineModel" y_Model_end y_Model_end,
  .selects "TaleMachineModel" y_Model_world y_Model_world,
  .selects "TaleMachineModel" y_Model_make y_Model_make,
  .selects "TaleMachineModel" y_Model_point y_Model_point,
  .selects "TaleMachineModel" y_Model_copy y_Model_copy,
  .selects "TaleMachineModel" y_Model_mark y_Model_mark,
  .selects "TaleMachineModel" y_Model_spread y_Model_spread,
  .selects "TaleMachineModel" y_Model_refuse y_Model_refuse]
def AW : List Cond := AW_0 ++ (AW_1 ++ (AW_2 ++ (AW_3 ++ (AW_4 ++ (AW_5 ++ (AW_6 ++ (AW_7 ++ (AW_8 ++ (AW_9 ++ (AW_10 ++ (AW_11 ++ (AW_12 ++ (AW_13 ++ (AW_14 ++ (AW_15)))))))))))))))
theorem inAW_0 {w : Cond} (h : w ∈ AW_0) : w ∈ AW := List.mem_append_left _ h
theorem inAW_1 {w : Cond} (h : w ∈ AW_1) : w ∈ AW := List.mem_append_right _ (List.mem_append_left _ h)
theorem inAW_2 {w : Cond} (h : w ∈ AW_2) : w ∈ AW := List.mem_append_right _ (List.mem_append_right _ (List.mem_append_left _ h))
theorem inAW_3 {w : Cond} (h : w ∈ AW_3) : w ∈ AW := List.mem_append_right _ (List.mem_append_right _ (List.mem_append_right _ (List.mem_append_left _ h)))
theorem inAW_4 {w : Cond} (h : w ∈ AW_4) : w ∈ AW := List.mem_append_right _ (List.mem_append_right _ (List.mem_append_right _ (List.mem_append_right _ (List.mem_append_left _ h))))
theorem inAW_5 {w : Cond} (h : w ∈ AW_5) : w ∈ AW := List.mem_append_right _ (List.mem_append_right _ (List.mem_append_right _ (List.mem_append_right _ (List.mem_append_right _ (List.mem_append_left _ h)))))
theorem inAW_6 {w : Cond} (h : w ∈ AW_6) : w ∈ AW := List.mem_append_right _ (List.mem_append_right _ (List.mem_append_right _ (List.mem_append_right _ (List.mem_append_right _ (List.mem_append_right _ (List.mem_append_left _ h))))))
theorem inAW_7 {w : Cond} (h : w ∈ AW_7) : w ∈ AW := List.mem_append_right _ (List.mem_append_right _ (List.mem_append_right _ (List.mem_append_right _ (List.mem_append_right _ (List.mem_append_right _ (List.mem_append_right _ (List.mem_append_left _ h)))))))
theorem inAW_8 {w : Cond} (h : w ∈ AW_8) : w ∈ AW := List.mem_append_right _ (List.mem_append_right _ (List.mem_append_right _ (List.mem_append_right _ (List.mem_append_right _ (List.mem_append_right _ (List.mem_append_right _ (List.mem_append_right _ (List.mem_append_left _ h))))))))
theorem inAW_9 {w : Cond} (h : w ∈ AW_9) : w ∈ AW := List.mem_append_right _ (List.mem_append_right _ (List.mem_append_right _ (List.mem_append_right _ (List.mem_append_right _ (List.mem_append_right _ (List.mem_append_right _ (List.mem_append_right _ (List.mem_append_right _ (List.mem_append_left _ h)))))))))
theorem inAW_10 {w : Cond} (h : w ∈ AW_10) : w ∈ AW := List.mem_append_right _ (List.mem_append_right _ (List.mem_append_right _ (List.mem_append_right _ (List.mem_append_right _ (List.mem_append_right _ (List.mem_append_right _ (List.mem_append_right _ (List.mem_append_right _ (List.mem_append_right _ (List.mem_append_left _ h))))))))))
theorem inAW_11 {w : Cond} (h : w ∈ AW_11) : w ∈ AW := List.mem_append_right _ (List.mem_append_right _ (List.mem_append_right _ (List.mem_append_right _ (List.mem_append_right _ (List.mem_append_right _ (List.mem_append_right _ (List.mem_append_right _ (List.mem_append_right _ (List.mem_append_right _ (List.mem_append_right _ (List.mem_append_left _ h)))))))))))
theorem inAW_12 {w : Cond} (h : w ∈ AW_12) : w ∈ AW := List.mem_append_right _ (List.mem_append_right _ (List.mem_append_right _ (List.mem_append_right _ (List.mem_append_right _ (List.mem_append_right _ (List.mem_append_right _ (List.mem_append_right _ (List.mem_append_right _ (List.mem_append_right _ (List.mem_append_right _ (List.mem_append_right _ (List.mem_append_left _ h))))))))))))
theorem inAW_13 {w : Cond} (h : w ∈ AW_13) : w ∈ AW := List.mem_append_right _ (List.mem_append_right _ (List.mem_append_right _ (List.mem_append_right _ (List.mem_append_right _ (List.mem_append_right _ (List.mem_append_right _ (List.mem_append_right _ (List.mem_append_right _ (List.mem_append_right _ (List.mem_append_right _ (List.mem_append_right _ (List.mem_append_right _ (List.mem_append_left _ h)))))))))))))
theorem inAW_14 {w : Cond} (h : w ∈ AW_14) : w ∈ AW := List.mem_append_right _ (List.mem_append_right _ (List.mem_append_right _ (List.mem_append_right _ (List.mem_append_right _ (List.mem_append_right _ (List.mem_append_right _ (List.mem_append_right _ (List.mem_append_right _ (List.mem_append_right _ (List.mem_append_right _ (List.mem_append_right _ (List.mem_append_right _ (List.mem_append_right _ (List.mem_append_left _ h))))))))))))))
theorem inAW_15 {w : Cond} (h : w ∈ AW_15) : w ∈ AW := List.mem_append_right _ (List.mem_append_right _ (List.mem_append_right _ (List.mem_append_right _ (List.mem_append_right _ (List.mem_append_right _ (List.mem_append_right _ (List.mem_append_right _ (List.mem_append_right _ (List.mem_append_right _ (List.mem_append_right _ (List.mem_append_right _ (List.mem_append_right _ (List.mem_append_right _ (List.mem_append_right _ (h)))))))))))))))
theorem k_0 : (.initialized "TaleMachineLaw" : Cond) ∈ AW := inAW_0 (List.mem_of_getElem? (i := 0) rfl)
theorem k_1 : (.initialized "TaleMachine" : Cond) ∈ AW := inAW_0 (List.mem_of_getElem? (i := 1) rfl)
theorem k_2 : (.initialized "TaleMachine$Script" : Cond) ∈ AW := inAW_0 (List.mem_of_getElem? (i := 2) rfl)
theorem k_3 : (.initialized "TaleMachine$World" : Cond) ∈ AW := inAW_0 (List.mem_of_getElem? (i := 3) rfl)
theorem k_4 : (.initialized "TaleMachine$State" : Cond) ∈ AW := inAW_0 (List.mem_of_getElem? (i := 4) rfl)
theorem k_5 : (.initialized "java/util/Arrays" : Cond) ∈ AW := inAW_0 (List.mem_of_getElem? (i := 5) rfl)
theorem k_6 : (.initialized "TaleMachine$History" : Cond) ∈ AW := inAW_0 (List.mem_of_getElem? (i := 6) rfl)
theorem k_7 : (.initialized "TaleMachine$Teller" : Cond) ∈ AW := inAW_0 (List.mem_of_getElem? (i := 7) rfl)
theorem k_8 : (.initialized "TaleMachine$Values" : Cond) ∈ AW := inAW_0 (List.mem_of_getElem? (i := 8) rfl)
theorem k_9 : (.initialized "TaleMachine$Frame" : Cond) ∈ AW := inAW_0 (List.mem_of_getElem? (i := 9) rfl)
theorem k_10 : (.initialized "TaleMachineModel" : Cond) ∈ AW := inAW_0 (List.mem_of_getElem? (i := 10) rfl)
theorem k_11 : (.initialized "java/lang/Throwable" : Cond) ∈ AW := inAW_0 (List.mem_of_getElem? (i := 11) rfl)
theorem k_12 : (.initialized "java/lang/Exception" : Cond) ∈ AW := inAW_0 (List.mem_of_getElem? (i := 12) rfl)
theorem k_13 : (.initialized "java/lang/RuntimeException" : Cond) ∈ AW := inAW_0 (List.mem_of_getElem? (i := 13) rfl)
theorem k_14 : (.initialized "java/lang/IllegalArgumentException" : Cond) ∈ AW := inAW_0 (List.mem_of_getElem? (i := 14) rfl)
theorem k_15 : (.initialized "java/lang/IllegalStateException" : Cond) ∈ AW := inAW_0 (List.mem_of_getElem? (i := 15) rfl)
theorem k_16 : (.initialized "java/util/NoSuchElementException" : Cond) ∈ AW := inAW_0 (List.mem_of_getElem? (i := 16) rfl)
theorem k_17 : (.initialized "java/lang/System" : Cond) ∈ AW := inAW_0 (List.mem_of_getElem? (i := 17) rfl)
theorem k_18 : (.initialized "java/lang/Math" : Cond) ∈ AW := inAW_0 (List.mem_of_getElem? (i := 18) rfl)
theorem k_19 : (.classLink "TaleMachineLaw" 8 "TaleMachine" : Cond) ∈ AW := inAW_0 (List.mem_of_getElem? (i := 19) rfl)
theorem k_20 : (.instantiable "TaleMachine" 4 : Cond) ∈ AW := inAW_0 (List.mem_of_getElem? (i := 20) rfl)
theorem k_21 : (.methodLink "TaleMachineLaw" 41 y_TM_init : Cond) ∈ AW := inAW_0 (List.mem_of_getElem? (i := 21) rfl)
theorem k_22 : (.instanceMethod y_TM_init : Cond) ∈ AW := inAW_0 (List.mem_of_getElem? (i := 22) rfl)
theorem k_23 : (.code y_TM_init prog_1_method_1_code 1 none : Cond) ∈ AW := inAW_0 (List.mem_of_getElem? (i := 23) rfl)
theorem k_24 : (.methodLink "TaleMachine" 3 objectInit : Cond) ∈ AW := inAW_0 (List.mem_of_getElem? (i := 24) rfl)
theorem k_25 : (.instanceMethod objectInit : Cond) ∈ AW := inAW_0 (List.mem_of_getElem? (i := 25) rfl)
theorem k_26 : (.code objectInit object_method_1_code 1 none : Cond) ∈ AW := inAW_0 (List.mem_of_getElem? (i := 26) rfl)
theorem k_27 : (.classLink "TaleMachine" 9 "TaleMachine$Script" : Cond) ∈ AW := inAW_0 (List.mem_of_getElem? (i := 27) rfl)
theorem k_28 : (.instantiable "TaleMachine$Script" 2 : Cond) ∈ AW := inAW_0 (List.mem_of_getElem? (i := 28) rfl)
theorem k_29 : (.instanceMethod y_Script_init : Cond) ∈ AW := inAW_0 (List.mem_of_getElem? (i := 29) rfl)
theorem k_30 : (.code y_Script_init prog_4_method_1_code 1 none : Cond) ∈ AW := inAW_0 (List.mem_of_getElem? (i := 30) rfl)
theorem k_31 : (.methodLink "TaleMachine$Script" 3 objectInit : Cond) ∈ AW := inAW_0 (List.mem_of_getElem? (i := 31) rfl)
theorem k_32 : (.fieldLink "TaleMachine$Script" 9 "TaleMachine$Script" "bytes" "[I" : Cond) ∈ AW := inAW_0 (List.mem_of_getElem? (i := 32) rfl)
theorem k_33 : (.fieldLink "TaleMachine$Script" 15 "TaleMachine$Script" "length" "I" : Cond) ∈ AW := inAW_0 (List.mem_of_getElem? (i := 33) rfl)
theorem k_34 : (.laysFinal "TaleMachine$Script" "TaleMachine$Script" "bytes" "[I" : Cond) ∈ AW := inAW_0 (List.mem_of_getElem? (i := 34) rfl)
theorem k_35 : (.lays "TaleMachine$Script" "TaleMachine$Script" "length" "I" : Cond) ∈ AW := inAW_0 (List.mem_of_getElem? (i := 35) rfl)
theorem k_36 : (.arrayClass .int : Cond) ∈ AW := inAW_0 (List.mem_of_getElem? (i := 36) rfl)
theorem k_37 : (.classLink "TaleMachine" 16 "TaleMachine$World" : Cond) ∈ AW := inAW_0 (List.mem_of_getElem? (i := 37) rfl)
theorem k_38 : (.instantiable "TaleMachine$World" 9 : Cond) ∈ AW := inAW_0 (List.mem_of_getElem? (i := 38) rfl)
theorem k_39 : (.instanceMethod y_World_init : Cond) ∈ AW := inAW_0 (List.mem_of_getElem? (i := 39) rfl)
theorem k_40 : (.code y_World_init prog_8_method_1_code 1 none : Cond) ∈ AW := inAW_0 (List.mem_of_getElem? (i := 40) rfl)
theorem k_41 : (.methodLink "TaleMachine$World" 3 objectInit : Cond) ∈ AW := inAW_0 (List.mem_of_getElem? (i := 41) rfl)
theorem k_42 : (.classLink "TaleMachine$World" 9 "TaleMachine$State" : Cond) ∈ AW := inAW_0 (List.mem_of_getElem? (i := 42) rfl)
theorem k_43 : (.instantiable "TaleMachine$State" 3 : Cond) ∈ AW := inAW_0 (List.mem_of_getElem? (i := 43) rfl)
theorem k_44 : (.methodLink "TaleMachine$World" 11 y_State_init : Cond) ∈ AW := inAW_0 (List.mem_of_getElem? (i := 44) rfl)
theorem k_45 : (.instanceMethod y_State_init : Cond) ∈ AW := inAW_0 (List.mem_of_getElem? (i := 45) rfl)
theorem k_46 : (.code y_State_init prog_5_method_1_code 1 none : Cond) ∈ AW := inAW_0 (List.mem_of_getElem? (i := 46) rfl)
theorem k_47 : (.methodLink "TaleMachine$State" 3 objectInit : Cond) ∈ AW := inAW_0 (List.mem_of_getElem? (i := 47) rfl)
theorem k_48 : (.methodLink "TaleMachine$State" 21 y_Arrays_fill : Cond) ∈ AW := inAW_0 (List.mem_of_getElem? (i := 48) rfl)
theorem k_49 : (.static y_Arrays_fill : Cond) ∈ AW := inAW_0 (List.mem_of_getElem? (i := 49) rfl)
theorem k_50 : (.code y_Arrays_fill prog_19_method_103_code 4 none : Cond) ∈ AW := inAW_0 (List.mem_of_getElem? (i := 50) rfl)
theorem k_51 : (.fieldLink "TaleMachine$State" 9 "TaleMachine$State" "kinds" "[I" : Cond) ∈ AW := inAW_0 (List.mem_of_getElem? (i := 51) rfl)
theorem k_52 : (.fieldLink "TaleMachine$World" 42 "TaleMachine$State" "kinds" "[I" : Cond) ∈ AW := inAW_0 (List.mem_of_getElem? (i := 52) rfl)
theorem k_53 : (.fieldLink "TaleMachine$State" 15 "TaleMachine$State" "ints" "[I" : Cond) ∈ AW := inAW_0 (List.mem_of_getElem? (i := 53) rfl)
theorem k_54 : (.fieldLink "TaleMachine$World" 45 "TaleMachine$State" "ints" "[I" : Cond) ∈ AW := inAW_0 (List.mem_of_getElem? (i := 54) rfl)
theorem k_55 : (.fieldLink "TaleMachine$State" 18 "TaleMachine$State" "parents" "[I" : Cond) ∈ AW := inAW_0 (List.mem_of_getElem? (i := 55) rfl)
theorem k_56 : (.fieldLink "TaleMachine$World" 39 "TaleMachine$State" "parents" "[I" : Cond) ∈ AW := inAW_0 (List.mem_of_getElem? (i := 56) rfl)
theorem k_57 : (.laysFinal "TaleMachine$State" "TaleMachine$State" "kinds" "[I" : Cond) ∈ AW := inAW_0 (List.mem_of_getElem? (i := 57) rfl)
theorem k_58 : (.laysFinal "TaleMachine$State" "TaleMachine$State" "ints" "[I" : Cond) ∈ AW := inAW_0 (List.mem_of_getElem? (i := 58) rfl)
theorem k_59 : (.laysFinal "TaleMachine$State" "TaleMachine$State" "parents" "[I" : Cond) ∈ AW := inAW_0 (List.mem_of_getElem? (i := 59) rfl)
theorem k_60 : (.fieldLink "TaleMachine$World" 12 "TaleMachine$World" "now" "LTaleMachine$State;" : Cond) ∈ AW := inAW_1 (List.mem_of_getElem? (i := 0) rfl)
theorem k_61 : (.fieldLink "TaleMachine$Teller" 209 "TaleMachine$World" "now" "LTaleMachine$State;" : Cond) ∈ AW := inAW_1 (List.mem_of_getElem? (i := 1) rfl)
theorem k_62 : (.fieldLink "TaleMachine$World" 31 "TaleMachine$World" "fixed" "I" : Cond) ∈ AW := inAW_1 (List.mem_of_getElem? (i := 2) rfl)
theorem k_63 : (.fieldLink "TaleMachine" 54 "TaleMachine$World" "fixed" "I" : Cond) ∈ AW := inAW_1 (List.mem_of_getElem? (i := 3) rfl)
theorem k_64 : (.fieldLink "TaleMachine$World" 18 "TaleMachine$World" "fixedLines" "[I" : Cond) ∈ AW := inAW_1 (List.mem_of_getElem? (i := 4) rfl)
theorem k_65 : (.fieldLink "TaleMachine$World" 22 "TaleMachine$World" "fixedLengths" "[I" : Cond) ∈ AW := inAW_1 (List.mem_of_getElem? (i := 5) rfl)
theorem k_66 : (.fieldLink "TaleMachine$World" 25 "TaleMachine$World" "line" "[I" : Cond) ∈ AW := inAW_1 (List.mem_of_getElem? (i := 6) rfl)
theorem k_67 : (.fieldLink "TaleMachine$World" 48 "TaleMachine$World" "length" "I" : Cond) ∈ AW := inAW_1 (List.mem_of_getElem? (i := 7) rfl)
theorem k_68 : (.fieldLink "TaleMachine$World" 28 "TaleMachine$World" "reached" "[I" : Cond) ∈ AW := inAW_1 (List.mem_of_getElem? (i := 8) rfl)
theorem k_69 : (.fieldLink "TaleMachine$World" 85 "TaleMachine$World" "reachedCount" "I" : Cond) ∈ AW := inAW_1 (List.mem_of_getElem? (i := 9) rfl)
theorem k_70 : (.fieldLink "TaleMachine$World" 88 "TaleMachine$World" "reachedBits" "I" : Cond) ∈ AW := inAW_1 (List.mem_of_getElem? (i := 10) rfl)
theorem k_71 : (.laysFinal "TaleMachine$World" "TaleMachine$World" "now" "LTaleMachine$State;" : Cond) ∈ AW := inAW_1 (List.mem_of_getElem? (i := 11) rfl)
theorem k_72 : (.lays "TaleMachine$World" "TaleMachine$World" "fixed" "I" : Cond) ∈ AW := inAW_1 (List.mem_of_getElem? (i := 12) rfl)
theorem k_73 : (.laysFinal "TaleMachine$World" "TaleMachine$World" "fixedLines" "[I" : Cond) ∈ AW := inAW_1 (List.mem_of_getElem? (i := 13) rfl)
theorem k_74 : (.laysFinal "TaleMachine$World" "TaleMachine$World" "fixedLengths" "[I" : Cond) ∈ AW := inAW_1 (List.mem_of_getElem? (i := 14) rfl)
theorem k_75 : (.laysFinal "TaleMachine$World" "TaleMachine$World" "line" "[I" : Cond) ∈ AW := inAW_1 (List.mem_of_getElem? (i := 15) rfl)
theorem k_76 : (.lays "TaleMachine$World" "TaleMachine$World" "length" "I" : Cond) ∈ AW := inAW_1 (List.mem_of_getElem? (i := 16) rfl)
theorem k_77 : (.laysFinal "TaleMachine$World" "TaleMachine$World" "reached" "[I" : Cond) ∈ AW := inAW_1 (List.mem_of_getElem? (i := 17) rfl)
theorem k_78 : (.lays "TaleMachine$World" "TaleMachine$World" "reachedCount" "I" : Cond) ∈ AW := inAW_1 (List.mem_of_getElem? (i := 18) rfl)
theorem k_79 : (.lays "TaleMachine$World" "TaleMachine$World" "reachedBits" "I" : Cond) ∈ AW := inAW_1 (List.mem_of_getElem? (i := 19) rfl)
theorem k_80 : (.classLink "TaleMachine" 23 "TaleMachine$History" : Cond) ∈ AW := inAW_1 (List.mem_of_getElem? (i := 20) rfl)
theorem k_81 : (.instantiable "TaleMachine$History" 4 : Cond) ∈ AW := inAW_1 (List.mem_of_getElem? (i := 21) rfl)
theorem k_82 : (.methodLink "TaleMachine" 25 y_History_init : Cond) ∈ AW := inAW_1 (List.mem_of_getElem? (i := 22) rfl)
theorem k_83 : (.instanceMethod y_History_init : Cond) ∈ AW := inAW_1 (List.mem_of_getElem? (i := 23) rfl)
theorem k_84 : (.code y_History_init prog_3_method_1_code 2 none : Cond) ∈ AW := inAW_1 (List.mem_of_getElem? (i := 24) rfl)
theorem k_85 : (.methodLink "TaleMachine$History" 3 objectInit : Cond) ∈ AW := inAW_1 (List.mem_of_getElem? (i := 25) rfl)
theorem k_86 : (.classLink "TaleMachine$History" 9 "TaleMachine$State" : Cond) ∈ AW := inAW_1 (List.mem_of_getElem? (i := 26) rfl)
theorem k_87 : (.methodLink "TaleMachine$History" 24 y_State_init : Cond) ∈ AW := inAW_1 (List.mem_of_getElem? (i := 27) rfl)
theorem k_88 : (.fieldLink "TaleMachine$History" 11 "TaleMachine$History" "pointed" "[LTaleMachine$State;" : Cond) ∈ AW := inAW_1 (List.mem_of_getElem? (i := 28) rfl)
theorem k_89 : (.fieldLink "TaleMachine$History" 17 "TaleMachine$History" "saved" "[LTaleMachine$State;" : Cond) ∈ AW := inAW_1 (List.mem_of_getElem? (i := 29) rfl)
theorem k_90 : (.fieldLink "TaleMachine$History" 20 "TaleMachine$History" "isSaved" "[Z" : Cond) ∈ AW := inAW_1 (List.mem_of_getElem? (i := 30) rfl)
theorem k_91 : (.fieldLink "TaleMachine$History" 25 "TaleMachine$History" "points" "I" : Cond) ∈ AW := inAW_1 (List.mem_of_getElem? (i := 31) rfl)
theorem k_92 : (.fieldLink "TaleMachine" 159 "TaleMachine$History" "points" "I" : Cond) ∈ AW := inAW_1 (List.mem_of_getElem? (i := 32) rfl)
theorem k_93 : (.laysFinal "TaleMachine$History" "TaleMachine$History" "pointed" "[LTaleMachine$State;" : Cond) ∈ AW := inAW_1 (List.mem_of_getElem? (i := 33) rfl)
theorem k_94 : (.laysFinal "TaleMachine$History" "TaleMachine$History" "saved" "[LTaleMachine$State;" : Cond) ∈ AW := inAW_1 (List.mem_of_getElem? (i := 34) rfl)
theorem k_95 : (.laysFinal "TaleMachine$History" "TaleMachine$History" "isSaved" "[Z" : Cond) ∈ AW := inAW_1 (List.mem_of_getElem? (i := 35) rfl)
theorem k_96 : (.lays "TaleMachine$History" "TaleMachine$History" "points" "I" : Cond) ∈ AW := inAW_1 (List.mem_of_getElem? (i := 36) rfl)
theorem k_97 : (.arrayClass .boolean : Cond) ∈ AW := inAW_1 (List.mem_of_getElem? (i := 37) rfl)
theorem k_98 : (.classLink "TaleMachine" 30 "TaleMachine$Teller" : Cond) ∈ AW := inAW_1 (List.mem_of_getElem? (i := 38) rfl)
theorem k_99 : (.instantiable "TaleMachine$Teller" 9 : Cond) ∈ AW := inAW_1 (List.mem_of_getElem? (i := 39) rfl)
theorem k_100 : (.methodLink "TaleMachine" 32 y_Teller_init : Cond) ∈ AW := inAW_1 (List.mem_of_getElem? (i := 40) rfl)
theorem k_101 : (.instanceMethod y_Teller_init : Cond) ∈ AW := inAW_1 (List.mem_of_getElem? (i := 41) rfl)
theorem k_102 : (.code y_Teller_init prog_6_method_1_code 5 none : Cond) ∈ AW := inAW_1 (List.mem_of_getElem? (i := 42) rfl)
theorem k_103 : (.methodLink "TaleMachine$Teller" 3 objectInit : Cond) ∈ AW := inAW_1 (List.mem_of_getElem? (i := 43) rfl)
theorem k_104 : (.classLink "TaleMachine$Teller" 9 "TaleMachine$Frame" : Cond) ∈ AW := inAW_1 (List.mem_of_getElem? (i := 44) rfl)
theorem k_105 : (.classLink "TaleMachine$Teller" 17 "TaleMachine$Values" : Cond) ∈ AW := inAW_1 (List.mem_of_getElem? (i := 45) rfl)
theorem k_106 : (.instantiable "TaleMachine$Values" 3 : Cond) ∈ AW := inAW_1 (List.mem_of_getElem? (i := 46) rfl)
theorem k_107 : (.methodLink "TaleMachine$Teller" 19 y_Values_init : Cond) ∈ AW := inAW_1 (List.mem_of_getElem? (i := 47) rfl)
theorem k_108 : (.instanceMethod y_Values_init : Cond) ∈ AW := inAW_1 (List.mem_of_getElem? (i := 48) rfl)
theorem k_109 : (.code y_Values_init prog_7_method_1_code 2 none : Cond) ∈ AW := inAW_1 (List.mem_of_getElem? (i := 49) rfl)
theorem k_110 : (.methodLink "TaleMachine$Values" 1 objectInit : Cond) ∈ AW := inAW_1 (List.mem_of_getElem? (i := 50) rfl)
theorem k_111 : (.fieldLink "TaleMachine$Values" 7 "TaleMachine$Values" "kinds" "[I" : Cond) ∈ AW := inAW_1 (List.mem_of_getElem? (i := 51) rfl)
theorem k_112 : (.fieldLink "TaleMachine$Teller" 71 "TaleMachine$Values" "kinds" "[I" : Cond) ∈ AW := inAW_1 (List.mem_of_getElem? (i := 52) rfl)
theorem k_113 : (.fieldLink "TaleMachine" 184 "TaleMachine$Values" "kinds" "[I" : Cond) ∈ AW := inAW_1 (List.mem_of_getElem? (i := 53) rfl)
theorem k_114 : (.fieldLink "TaleMachine$Values" 13 "TaleMachine$Values" "ints" "[I" : Cond) ∈ AW := inAW_1 (List.mem_of_getElem? (i := 54) rfl)
theorem k_115 : (.fieldLink "TaleMachine$Teller" 75 "TaleMachine$Values" "ints" "[I" : Cond) ∈ AW := inAW_1 (List.mem_of_getElem? (i := 55) rfl)
theorem k_116 : (.fieldLink "TaleMachine" 188 "TaleMachine$Values" "ints" "[I" : Cond) ∈ AW := inAW_1 (List.mem_of_getElem? (i := 56) rfl)
theorem k_117 : (.fieldLink "TaleMachine$Values" 16 "TaleMachine$Values" "count" "I" : Cond) ∈ AW := inAW_1 (List.mem_of_getElem? (i := 57) rfl)
theorem k_118 : (.fieldLink "TaleMachine$Teller" 52 "TaleMachine$Values" "count" "I" : Cond) ∈ AW := inAW_1 (List.mem_of_getElem? (i := 58) rfl)
theorem k_119 : (.fieldLink "TaleMachine" 168 "TaleMachine$Values" "count" "I" : Cond) ∈ AW := inAW_1 (List.mem_of_getElem? (i := 59) rfl)
theorem k_120 : (.laysFinal "TaleMachine$Values" "TaleMachine$Values" "kinds" "[I" : Cond) ∈ AW := inAW_2 (List.mem_of_getElem? (i := 0) rfl)
theorem k_121 : (.laysFinal "TaleMachine$Values" "TaleMachine$Values" "ints" "[I" : Cond) ∈ AW := inAW_2 (List.mem_of_getElem? (i := 1) rfl)
theorem k_122 : (.lays "TaleMachine$Values" "TaleMachine$Values" "count" "I" : Cond) ∈ AW := inAW_2 (List.mem_of_getElem? (i := 2) rfl)
theorem k_123 : (.instantiable "TaleMachine$Frame" 8 : Cond) ∈ AW := inAW_2 (List.mem_of_getElem? (i := 3) rfl)
theorem k_124 : (.instanceMethod y_Frame_init : Cond) ∈ AW := inAW_2 (List.mem_of_getElem? (i := 4) rfl)
theorem k_125 : (.code y_Frame_init prog_2_method_1_code 1 none : Cond) ∈ AW := inAW_2 (List.mem_of_getElem? (i := 5) rfl)
theorem k_126 : (.methodLink "TaleMachine$Frame" 1 objectInit : Cond) ∈ AW := inAW_2 (List.mem_of_getElem? (i := 6) rfl)
theorem k_127 : (.fieldLink "TaleMachine$Teller" 254 "TaleMachine$Frame" "method" "I" : Cond) ∈ AW := inAW_2 (List.mem_of_getElem? (i := 7) rfl)
theorem k_128 : (.fieldLink "TaleMachine$Teller" 260 "TaleMachine$Frame" "beginning" "I" : Cond) ∈ AW := inAW_2 (List.mem_of_getElem? (i := 8) rfl)
theorem k_129 : (.fieldLink "TaleMachine$Teller" 84 "TaleMachine$Frame" "self" "I" : Cond) ∈ AW := inAW_2 (List.mem_of_getElem? (i := 9) rfl)
theorem k_130 : (.fieldLink "TaleMachine" 156 "TaleMachine$Frame" "self" "I" : Cond) ∈ AW := inAW_2 (List.mem_of_getElem? (i := 10) rfl)
theorem k_131 : (.fieldLink "TaleMachine$Teller" 90 "TaleMachine$Frame" "found" "I" : Cond) ∈ AW := inAW_2 (List.mem_of_getElem? (i := 11) rfl)
theorem k_132 : (.fieldLink "TaleMachine$Teller" 97 "TaleMachine$Frame" "place" "I" : Cond) ∈ AW := inAW_2 (List.mem_of_getElem? (i := 12) rfl)
theorem k_133 : (.fieldLink "TaleMachine" 151 "TaleMachine$Frame" "place" "I" : Cond) ∈ AW := inAW_2 (List.mem_of_getElem? (i := 13) rfl)
theorem k_134 : (.fieldLink "TaleMachine$Teller" 110 "TaleMachine$Frame" "behind" "I" : Cond) ∈ AW := inAW_2 (List.mem_of_getElem? (i := 14) rfl)
theorem k_135 : (.fieldLink "TaleMachine$Teller" 137 "TaleMachine$Frame" "base" "I" : Cond) ∈ AW := inAW_2 (List.mem_of_getElem? (i := 15) rfl)
theorem k_136 : (.fieldLink "TaleMachine$Teller" 223 "TaleMachine$Frame" "floor" "I" : Cond) ∈ AW := inAW_2 (List.mem_of_getElem? (i := 16) rfl)
theorem k_137 : (.lays "TaleMachine$Frame" "TaleMachine$Frame" "method" "I" : Cond) ∈ AW := inAW_2 (List.mem_of_getElem? (i := 17) rfl)
theorem k_138 : (.lays "TaleMachine$Frame" "TaleMachine$Frame" "beginning" "I" : Cond) ∈ AW := inAW_2 (List.mem_of_getElem? (i := 18) rfl)
theorem k_139 : (.lays "TaleMachine$Frame" "TaleMachine$Frame" "self" "I" : Cond) ∈ AW := inAW_2 (List.mem_of_getElem? (i := 19) rfl)
theorem k_140 : (.lays "TaleMachine$Frame" "TaleMachine$Frame" "found" "I" : Cond) ∈ AW := inAW_2 (List.mem_of_getElem? (i := 20) rfl)
theorem k_141 : (.lays "TaleMachine$Frame" "TaleMachine$Frame" "place" "I" : Cond) ∈ AW := inAW_2 (List.mem_of_getElem? (i := 21) rfl)
theorem k_142 : (.lays "TaleMachine$Frame" "TaleMachine$Frame" "behind" "I" : Cond) ∈ AW := inAW_2 (List.mem_of_getElem? (i := 22) rfl)
theorem k_143 : (.lays "TaleMachine$Frame" "TaleMachine$Frame" "base" "I" : Cond) ∈ AW := inAW_2 (List.mem_of_getElem? (i := 23) rfl)
theorem k_144 : (.lays "TaleMachine$Frame" "TaleMachine$Frame" "floor" "I" : Cond) ∈ AW := inAW_2 (List.mem_of_getElem? (i := 24) rfl)
theorem k_145 : (.fieldLink "TaleMachine$Teller" 36 "TaleMachine$Teller" "script" "LTaleMachine$Script;" : Cond) ∈ AW := inAW_2 (List.mem_of_getElem? (i := 25) rfl)
theorem k_146 : (.fieldLink "TaleMachine$Teller" 40 "TaleMachine$Teller" "world" "LTaleMachine$World;" : Cond) ∈ AW := inAW_2 (List.mem_of_getElem? (i := 26) rfl)
theorem k_147 : (.fieldLink "TaleMachine$Teller" 44 "TaleMachine$Teller" "history" "LTaleMachine$History;" : Cond) ∈ AW := inAW_2 (List.mem_of_getElem? (i := 27) rfl)
theorem k_148 : (.fieldLink "TaleMachine$Teller" 11 "TaleMachine$Teller" "frames" "[LTaleMachine$Frame;" : Cond) ∈ AW := inAW_2 (List.mem_of_getElem? (i := 28) rfl)
theorem k_149 : (.fieldLink "TaleMachine$Teller" 22 "TaleMachine$Teller" "values" "LTaleMachine$Values;" : Cond) ∈ AW := inAW_2 (List.mem_of_getElem? (i := 29) rfl)
theorem k_150 : (.fieldLink "TaleMachine" 134 "TaleMachine$Teller" "values" "LTaleMachine$Values;" : Cond) ∈ AW := inAW_2 (List.mem_of_getElem? (i := 30) rfl)
theorem k_151 : (.fieldLink "TaleMachine$Teller" 26 "TaleMachine$Teller" "sayings" "LTaleMachine$Values;" : Cond) ∈ AW := inAW_2 (List.mem_of_getElem? (i := 31) rfl)
theorem k_152 : (.fieldLink "TaleMachine" 165 "TaleMachine$Teller" "sayings" "LTaleMachine$Values;" : Cond) ∈ AW := inAW_2 (List.mem_of_getElem? (i := 32) rfl)
theorem k_153 : (.fieldLink "TaleMachine$Teller" 29 "TaleMachine$Teller" "result" "LTaleMachine$Values;" : Cond) ∈ AW := inAW_2 (List.mem_of_getElem? (i := 33) rfl)
theorem k_154 : (.fieldLink "TaleMachine" 174 "TaleMachine$Teller" "result" "LTaleMachine$Values;" : Cond) ∈ AW := inAW_2 (List.mem_of_getElem? (i := 34) rfl)
theorem k_155 : (.fieldLink "TaleMachine$Teller" 49 "TaleMachine$Teller" "depth" "I" : Cond) ∈ AW := inAW_2 (List.mem_of_getElem? (i := 35) rfl)
theorem k_156 : (.fieldLink "TaleMachine" 142 "TaleMachine$Teller" "depth" "I" : Cond) ∈ AW := inAW_2 (List.mem_of_getElem? (i := 36) rfl)
theorem k_157 : (.fieldLink "TaleMachine$Teller" 32 "TaleMachine$Teller" "outcome" "I" : Cond) ∈ AW := inAW_2 (List.mem_of_getElem? (i := 37) rfl)
theorem k_158 : (.fieldLink "TaleMachine" 58 "TaleMachine$Teller" "outcome" "I" : Cond) ∈ AW := inAW_2 (List.mem_of_getElem? (i := 38) rfl)
theorem k_159 : (.laysFinal "TaleMachine$Teller" "TaleMachine$Teller" "script" "LTaleMachine$Script;" : Cond) ∈ AW := inAW_2 (List.mem_of_getElem? (i := 39) rfl)
theorem k_160 : (.laysFinal "TaleMachine$Teller" "TaleMachine$Teller" "world" "LTaleMachine$World;" : Cond) ∈ AW := inAW_2 (List.mem_of_getElem? (i := 40) rfl)
theorem k_161 : (.laysFinal "TaleMachine$Teller" "TaleMachine$Teller" "history" "LTaleMachine$History;" : Cond) ∈ AW := inAW_2 (List.mem_of_getElem? (i := 41) rfl)
theorem k_162 : (.laysFinal "TaleMachine$Teller" "TaleMachine$Teller" "frames" "[LTaleMachine$Frame;" : Cond) ∈ AW := inAW_2 (List.mem_of_getElem? (i := 42) rfl)
theorem k_163 : (.laysFinal "TaleMachine$Teller" "TaleMachine$Teller" "values" "LTaleMachine$Values;" : Cond) ∈ AW := inAW_2 (List.mem_of_getElem? (i := 43) rfl)
theorem k_164 : (.laysFinal "TaleMachine$Teller" "TaleMachine$Teller" "sayings" "LTaleMachine$Values;" : Cond) ∈ AW := inAW_2 (List.mem_of_getElem? (i := 44) rfl)
theorem k_165 : (.laysFinal "TaleMachine$Teller" "TaleMachine$Teller" "result" "LTaleMachine$Values;" : Cond) ∈ AW := inAW_2 (List.mem_of_getElem? (i := 45) rfl)
theorem k_166 : (.lays "TaleMachine$Teller" "TaleMachine$Teller" "depth" "I" : Cond) ∈ AW := inAW_2 (List.mem_of_getElem? (i := 46) rfl)
theorem k_167 : (.lays "TaleMachine$Teller" "TaleMachine$Teller" "outcome" "I" : Cond) ∈ AW := inAW_2 (List.mem_of_getElem? (i := 47) rfl)
theorem k_168 : (.fieldLink "TaleMachine" 12 "TaleMachine" "script" "LTaleMachine$Script;" : Cond) ∈ AW := inAW_2 (List.mem_of_getElem? (i := 48) rfl)
theorem k_169 : (.fieldLink "TaleMachine" 19 "TaleMachine" "world" "LTaleMachine$World;" : Cond) ∈ AW := inAW_2 (List.mem_of_getElem? (i := 49) rfl)
theorem k_170 : (.fieldLink "TaleMachine" 26 "TaleMachine" "history" "LTaleMachine$History;" : Cond) ∈ AW := inAW_2 (List.mem_of_getElem? (i := 50) rfl)
theorem k_171 : (.fieldLink "TaleMachine" 35 "TaleMachine" "teller" "LTaleMachine$Teller;" : Cond) ∈ AW := inAW_2 (List.mem_of_getElem? (i := 51) rfl)
theorem k_172 : (.laysFinal "TaleMachine" "TaleMachine" "script" "LTaleMachine$Script;" : Cond) ∈ AW := inAW_2 (List.mem_of_getElem? (i := 52) rfl)
theorem k_173 : (.laysFinal "TaleMachine" "TaleMachine" "world" "LTaleMachine$World;" : Cond) ∈ AW := inAW_2 (List.mem_of_getElem? (i := 53) rfl)
theorem k_174 : (.laysFinal "TaleMachine" "TaleMachine" "history" "LTaleMachine$History;" : Cond) ∈ AW := inAW_2 (List.mem_of_getElem? (i := 54) rfl)
theorem k_175 : (.laysFinal "TaleMachine" "TaleMachine" "teller" "LTaleMachine$Teller;" : Cond) ∈ AW := inAW_2 (List.mem_of_getElem? (i := 55) rfl)
theorem k_176 : (.methodLink "TaleMachineLaw" 45 y_TM_code : Cond) ∈ AW := inAW_2 (List.mem_of_getElem? (i := 56) rfl)
theorem k_177 : (.instanceMethod y_TM_code : Cond) ∈ AW := inAW_2 (List.mem_of_getElem? (i := 57) rfl)
theorem k_178 : (.selects "TaleMachine" y_TM_code y_TM_code : Cond) ∈ AW := inAW_2 (List.mem_of_getElem? (i := 58) rfl)
theorem k_179 : (.code y_TM_code prog_1_method_2_code 3 (some .boolean) : Cond) ∈ AW := inAW_2 (List.mem_of_getElem? (i := 59) rfl)
theorem k_180 : (.methodLink "TaleMachine" 39 y_Script_append : Cond) ∈ AW := inAW_3 (List.mem_of_getElem? (i := 0) rfl)
theorem k_181 : (.instanceMethod y_Script_append : Cond) ∈ AW := inAW_3 (List.mem_of_getElem? (i := 1) rfl)
theorem k_182 : (.selects "TaleMachine$Script" y_Script_append y_Script_append : Cond) ∈ AW := inAW_3 (List.mem_of_getElem? (i := 2) rfl)
theorem k_183 : (.code y_Script_append prog_4_method_2_code 4 (some .boolean) : Cond) ∈ AW := inAW_3 (List.mem_of_getElem? (i := 3) rfl)
theorem k_184 : (.methodLink "TaleMachineLaw" 68 y_TM_run : Cond) ∈ AW := inAW_3 (List.mem_of_getElem? (i := 4) rfl)
theorem k_185 : (.instanceMethod y_TM_run : Cond) ∈ AW := inAW_3 (List.mem_of_getElem? (i := 5) rfl)
theorem k_186 : (.selects "TaleMachine" y_TM_run y_TM_run : Cond) ∈ AW := inAW_3 (List.mem_of_getElem? (i := 6) rfl)
theorem k_187 : (.code y_TM_run prog_1_method_6_code 4 (some .int) : Cond) ∈ AW := inAW_3 (List.mem_of_getElem? (i := 7) rfl)
theorem k_188 : (.methodLink "TaleMachine" 111 ⟨"java/lang/Math", "min", "(II)I"⟩ : Cond) ∈ AW := inAW_3 (List.mem_of_getElem? (i := 8) rfl)
theorem k_189 : (.static ⟨"java/lang/Math", "min", "(II)I"⟩ : Cond) ∈ AW := inAW_3 (List.mem_of_getElem? (i := 9) rfl)
theorem k_190 : (.code ⟨"java/lang/Math", "min", "(II)I"⟩ prog_14_method_69_code 2 (some .int) : Cond) ∈ AW := inAW_3 (List.mem_of_getElem? (i := 10) rfl)
theorem k_191 : (.methodLink "TaleMachine" 116 y_Teller_perform : Cond) ∈ AW := inAW_3 (List.mem_of_getElem? (i := 11) rfl)
theorem k_192 : (.instanceMethod y_Teller_perform : Cond) ∈ AW := inAW_3 (List.mem_of_getElem? (i := 12) rfl)
theorem k_193 : (.selects "TaleMachine$Teller" y_Teller_perform y_Teller_perform : Cond) ∈ AW := inAW_3 (List.mem_of_getElem? (i := 13) rfl)
theorem k_194 : (.code y_Teller_perform prog_6_method_7_code 4 (some .boolean) : Cond) ∈ AW := inAW_3 (List.mem_of_getElem? (i := 14) rfl)
theorem k_195 : (.methodLink "TaleMachine$Teller" 93 y_Teller_top : Cond) ∈ AW := inAW_3 (List.mem_of_getElem? (i := 15) rfl)
theorem k_196 : (.instanceMethod y_Teller_top : Cond) ∈ AW := inAW_3 (List.mem_of_getElem? (i := 16) rfl)
theorem k_197 : (.selects "TaleMachine$Teller" y_Teller_top y_Teller_top : Cond) ∈ AW := inAW_3 (List.mem_of_getElem? (i := 17) rfl)
theorem k_198 : (.code y_Teller_top prog_6_method_2_code 1 (some (.object "TaleMachine$Frame")) : Cond) ∈ AW := inAW_3 (List.mem_of_getElem? (i := 18) rfl)
theorem k_199 : (.methodLink "TaleMachine$Teller" 100 y_Script_instruction : Cond) ∈ AW := inAW_3 (List.mem_of_getElem? (i := 19) rfl)
theorem k_200 : (.instanceMethod y_Script_instruction : Cond) ∈ AW := inAW_3 (List.mem_of_getElem? (i := 20) rfl)
theorem k_201 : (.selects "TaleMachine$Script" y_Script_instruction y_Script_instruction : Cond) ∈ AW := inAW_3 (List.mem_of_getElem? (i := 21) rfl)
theorem k_202 : (.code y_Script_instruction prog_4_method_6_code 3 (some .int) : Cond) ∈ AW := inAW_3 (List.mem_of_getElem? (i := 22) rfl)
theorem k_203 : (.methodLink "TaleMachine$Script" 19 y_Script_at : Cond) ∈ AW := inAW_3 (List.mem_of_getElem? (i := 23) rfl)
theorem k_204 : (.instanceMethod y_Script_at : Cond) ∈ AW := inAW_3 (List.mem_of_getElem? (i := 24) rfl)
theorem k_205 : (.selects "TaleMachine$Script" y_Script_at y_Script_at : Cond) ∈ AW := inAW_3 (List.mem_of_getElem? (i := 25) rfl)
theorem k_206 : (.code y_Script_at prog_4_method_3_code 2 (some .int) : Cond) ∈ AW := inAW_3 (List.mem_of_getElem? (i := 26) rfl)
theorem k_207 : (.fieldLink "TaleMachine$Script" 26 "TaleMachine$Script" "LENGTHS" "[I" : Cond) ∈ AW := inAW_3 (List.mem_of_getElem? (i := 27) rfl)
theorem k_208 : (.methodLink "TaleMachine$Teller" 106 y_Script_behind : Cond) ∈ AW := inAW_3 (List.mem_of_getElem? (i := 28) rfl)
theorem k_209 : (.instanceMethod y_Script_behind : Cond) ∈ AW := inAW_3 (List.mem_of_getElem? (i := 29) rfl)
theorem k_210 : (.selects "TaleMachine$Script" y_Script_behind y_Script_behind : Cond) ∈ AW := inAW_3 (List.mem_of_getElem? (i := 30) rfl)
theorem k_211 : (.code y_Script_behind prog_4_method_7_code 3 (some .int) : Cond) ∈ AW := inAW_3 (List.mem_of_getElem? (i := 31) rfl)
theorem k_212 : (.methodLink "TaleMachine$Teller" 112 y_Script_at : Cond) ∈ AW := inAW_3 (List.mem_of_getElem? (i := 32) rfl)
theorem k_213 : (.methodLink "TaleMachine$Teller" 115 y_Teller_goOn : Cond) ∈ AW := inAW_3 (List.mem_of_getElem? (i := 33) rfl)
theorem k_214 : (.instanceMethod y_Teller_goOn : Cond) ∈ AW := inAW_3 (List.mem_of_getElem? (i := 34) rfl)
theorem k_215 : (.code y_Teller_goOn prog_6_method_8_code 2 (some .boolean) : Cond) ∈ AW := inAW_3 (List.mem_of_getElem? (i := 35) rfl)
theorem k_216 : (.methodLink "TaleMachine$Teller" 119 y_Teller_put : Cond) ∈ AW := inAW_3 (List.mem_of_getElem? (i := 36) rfl)
theorem k_217 : (.instanceMethod y_Teller_put : Cond) ∈ AW := inAW_3 (List.mem_of_getElem? (i := 37) rfl)
theorem k_218 : (.code y_Teller_put prog_6_method_9_code 4 (some .boolean) : Cond) ∈ AW := inAW_3 (List.mem_of_getElem? (i := 38) rfl)
theorem k_219 : (.methodLink "TaleMachine$Teller" 64 y_Values_add : Cond) ∈ AW := inAW_3 (List.mem_of_getElem? (i := 39) rfl)
theorem k_220 : (.instanceMethod y_Values_add : Cond) ∈ AW := inAW_3 (List.mem_of_getElem? (i := 40) rfl)
theorem k_221 : (.selects "TaleMachine$Values" y_Values_add y_Values_add : Cond) ∈ AW := inAW_3 (List.mem_of_getElem? (i := 41) rfl)
theorem k_222 : (.code y_Values_add prog_7_method_3_code 3 (some .boolean) : Cond) ∈ AW := inAW_3 (List.mem_of_getElem? (i := 42) rfl)
theorem k_223 : (.methodLink "TaleMachine$Teller" 123 y_Script_number : Cond) ∈ AW := inAW_3 (List.mem_of_getElem? (i := 43) rfl)
theorem k_224 : (.instanceMethod y_Script_number : Cond) ∈ AW := inAW_3 (List.mem_of_getElem? (i := 44) rfl)
theorem k_225 : (.selects "TaleMachine$Script" y_Script_number y_Script_number : Cond) ∈ AW := inAW_3 (List.mem_of_getElem? (i := 45) rfl)
theorem k_226 : (.code y_Script_number prog_4_method_5_code 2 (some .int) : Cond) ∈ AW := inAW_3 (List.mem_of_getElem? (i := 46) rfl)
theorem k_227 : (.methodLink "TaleMachine$Script" 23 y_Script_address : Cond) ∈ AW := inAW_3 (List.mem_of_getElem? (i := 47) rfl)
theorem k_228 : (.instanceMethod y_Script_address : Cond) ∈ AW := inAW_3 (List.mem_of_getElem? (i := 48) rfl)
theorem k_229 : (.selects "TaleMachine$Script" y_Script_address y_Script_address : Cond) ∈ AW := inAW_3 (List.mem_of_getElem? (i := 49) rfl)
theorem k_230 : (.code y_Script_address prog_4_method_4_code 2 (some .int) : Cond) ∈ AW := inAW_3 (List.mem_of_getElem? (i := 50) rfl)
theorem k_231 : (.methodLink "TaleMachine$Teller" 126 y_World_isThere : Cond) ∈ AW := inAW_3 (List.mem_of_getElem? (i := 51) rfl)
theorem k_232 : (.instanceMethod y_World_isThere : Cond) ∈ AW := inAW_3 (List.mem_of_getElem? (i := 52) rfl)
theorem k_233 : (.selects "TaleMachine$World" y_World_isThere y_World_isThere : Cond) ∈ AW := inAW_3 (List.mem_of_getElem? (i := 53) rfl)
theorem k_234 : (.code y_World_isThere prog_8_method_3_code 2 (some .boolean) : Cond) ∈ AW := inAW_3 (List.mem_of_getElem? (i := 54) rfl)
theorem k_235 : (.methodLink "TaleMachine$World" 35 y_World_isFixed : Cond) ∈ AW := inAW_3 (List.mem_of_getElem? (i := 55) rfl)
theorem k_236 : (.instanceMethod y_World_isFixed : Cond) ∈ AW := inAW_3 (List.mem_of_getElem? (i := 56) rfl)
theorem k_237 : (.selects "TaleMachine$World" y_World_isFixed y_World_isFixed : Cond) ∈ AW := inAW_3 (List.mem_of_getElem? (i := 57) rfl)
theorem k_238 : (.code y_World_isFixed prog_8_method_2_code 2 (some .boolean) : Cond) ∈ AW := inAW_3 (List.mem_of_getElem? (i := 58) rfl)
theorem k_239 : (.methodLink "TaleMachine$Teller" 130 y_Script_address : Cond) ∈ AW := inAW_3 (List.mem_of_getElem? (i := 59) rfl)
theorem k_240 : (.methodLink "TaleMachine$Teller" 133 y_Teller_isLocal : Cond) ∈ AW := inAW_4 (List.mem_of_getElem? (i := 0) rfl)
theorem k_241 : (.instanceMethod y_Teller_isLocal : Cond) ∈ AW := inAW_4 (List.mem_of_getElem? (i := 1) rfl)
theorem k_242 : (.code y_Teller_isLocal prog_6_method_18_code 3 (some .boolean) : Cond) ∈ AW := inAW_4 (List.mem_of_getElem? (i := 2) rfl)
theorem k_243 : (.methodLink "TaleMachine$Teller" 140 y_Teller_putCopy : Cond) ∈ AW := inAW_4 (List.mem_of_getElem? (i := 3) rfl)
theorem k_244 : (.instanceMethod y_Teller_putCopy : Cond) ∈ AW := inAW_4 (List.mem_of_getElem? (i := 4) rfl)
theorem k_245 : (.code y_Teller_putCopy prog_6_method_10_code 3 (some .boolean) : Cond) ∈ AW := inAW_4 (List.mem_of_getElem? (i := 5) rfl)
theorem k_246 : (.methodLink "TaleMachine$Teller" 143 y_Teller_takeIntoLocal : Cond) ∈ AW := inAW_4 (List.mem_of_getElem? (i := 6) rfl)
theorem k_247 : (.instanceMethod y_Teller_takeIntoLocal : Cond) ∈ AW := inAW_4 (List.mem_of_getElem? (i := 7) rfl)
theorem k_248 : (.code y_Teller_takeIntoLocal prog_6_method_19_code 3 (some .boolean) : Cond) ∈ AW := inAW_4 (List.mem_of_getElem? (i := 8) rfl)
theorem k_249 : (.methodLink "TaleMachine$Teller" 146 y_Teller_canTake : Cond) ∈ AW := inAW_4 (List.mem_of_getElem? (i := 9) rfl)
theorem k_250 : (.instanceMethod y_Teller_canTake : Cond) ∈ AW := inAW_4 (List.mem_of_getElem? (i := 10) rfl)
theorem k_251 : (.code y_Teller_canTake prog_6_method_12_code 3 (some .boolean) : Cond) ∈ AW := inAW_4 (List.mem_of_getElem? (i := 11) rfl)
theorem k_252 : (.methodLink "TaleMachine$Teller" 180 y_Teller_topKind : Cond) ∈ AW := inAW_4 (List.mem_of_getElem? (i := 12) rfl)
theorem k_253 : (.instanceMethod y_Teller_topKind : Cond) ∈ AW := inAW_4 (List.mem_of_getElem? (i := 13) rfl)
theorem k_254 : (.code y_Teller_topKind prog_6_method_14_code 1 (some .int) : Cond) ∈ AW := inAW_4 (List.mem_of_getElem? (i := 14) rfl)
theorem k_255 : (.methodLink "TaleMachine$Teller" 184 y_Teller_topInt : Cond) ∈ AW := inAW_4 (List.mem_of_getElem? (i := 15) rfl)
theorem k_256 : (.instanceMethod y_Teller_topInt : Cond) ∈ AW := inAW_4 (List.mem_of_getElem? (i := 16) rfl)
theorem k_257 : (.code y_Teller_topInt prog_6_method_15_code 1 (some .int) : Cond) ∈ AW := inAW_4 (List.mem_of_getElem? (i := 17) rfl)
theorem k_258 : (.methodLink "TaleMachine$Teller" 149 y_Teller_take : Cond) ∈ AW := inAW_4 (List.mem_of_getElem? (i := 18) rfl)
theorem k_259 : (.instanceMethod y_Teller_take : Cond) ∈ AW := inAW_4 (List.mem_of_getElem? (i := 19) rfl)
theorem k_260 : (.code y_Teller_take prog_6_method_13_code 3 (some .boolean) : Cond) ∈ AW := inAW_4 (List.mem_of_getElem? (i := 20) rfl)
theorem k_261 : (.methodLink "TaleMachine$Teller" 152 y_Teller_calculate : Cond) ∈ AW := inAW_4 (List.mem_of_getElem? (i := 21) rfl)
theorem k_262 : (.instanceMethod y_Teller_calculate : Cond) ∈ AW := inAW_4 (List.mem_of_getElem? (i := 22) rfl)
theorem k_263 : (.code y_Teller_calculate prog_6_method_20_code 7 (some .boolean) : Cond) ∈ AW := inAW_4 (List.mem_of_getElem? (i := 23) rfl)
theorem k_264 : (.methodLink "TaleMachine$Teller" 193 y_Teller_raise : Cond) ∈ AW := inAW_4 (List.mem_of_getElem? (i := 24) rfl)
theorem k_265 : (.instanceMethod y_Teller_raise : Cond) ∈ AW := inAW_4 (List.mem_of_getElem? (i := 25) rfl)
theorem k_266 : (.code y_Teller_raise prog_6_method_31_code 5 (some .boolean) : Cond) ∈ AW := inAW_4 (List.mem_of_getElem? (i := 26) rfl)
theorem k_267 : (.methodLink "TaleMachine$Teller" 269 y_World_lay : Cond) ∈ AW := inAW_4 (List.mem_of_getElem? (i := 27) rfl)
theorem k_268 : (.instanceMethod y_World_lay : Cond) ∈ AW := inAW_4 (List.mem_of_getElem? (i := 28) rfl)
theorem k_269 : (.selects "TaleMachine$World" y_World_lay y_World_lay : Cond) ∈ AW := inAW_4 (List.mem_of_getElem? (i := 29) rfl)
theorem k_270 : (.code y_World_lay prog_8_method_12_code 3 none : Cond) ∈ AW := inAW_4 (List.mem_of_getElem? (i := 30) rfl)
theorem k_271 : (.methodLink "TaleMachine$World" 63 ⟨"java/lang/System", "arraycopy", "(Ljava/lang/Object;ILjava/lang/Object;II)V"⟩ : Cond) ∈ AW := inAW_4 (List.mem_of_getElem? (i := 31) rfl)
theorem k_272 : (.static ⟨"java/lang/System", "arraycopy", "(Ljava/lang/Object;ILjava/lang/Object;II)V"⟩ : Cond) ∈ AW := inAW_4 (List.mem_of_getElem? (i := 32) rfl)
theorem k_273 : (.native ⟨"java/lang/System", "arraycopy", "(Ljava/lang/Object;ILjava/lang/Object;II)V"⟩ : Cond) ∈ AW := inAW_4 (List.mem_of_getElem? (i := 33) rfl)
theorem k_274 : (.methodLink "TaleMachine$Teller" 272 y_Teller_goal : Cond) ∈ AW := inAW_4 (List.mem_of_getElem? (i := 34) rfl)
theorem k_275 : (.instanceMethod y_Teller_goal : Cond) ∈ AW := inAW_4 (List.mem_of_getElem? (i := 35) rfl)
theorem k_276 : (.code y_Teller_goal prog_6_method_32_code 4 (some .int) : Cond) ∈ AW := inAW_4 (List.mem_of_getElem? (i := 36) rfl)
theorem k_277 : (.methodLink "TaleMachine$Teller" 276 y_World_inLine : Cond) ∈ AW := inAW_4 (List.mem_of_getElem? (i := 37) rfl)
theorem k_278 : (.instanceMethod y_World_inLine : Cond) ∈ AW := inAW_4 (List.mem_of_getElem? (i := 38) rfl)
theorem k_279 : (.selects "TaleMachine$World" y_World_inLine y_World_inLine : Cond) ∈ AW := inAW_4 (List.mem_of_getElem? (i := 39) rfl)
theorem k_280 : (.code y_World_inLine prog_8_method_13_code 3 (some .int) : Cond) ∈ AW := inAW_4 (List.mem_of_getElem? (i := 40) rfl)
theorem k_281 : (.methodLink "TaleMachine$Teller" 265 y_Teller_finish : Cond) ∈ AW := inAW_4 (List.mem_of_getElem? (i := 41) rfl)
theorem k_282 : (.instanceMethod y_Teller_finish : Cond) ∈ AW := inAW_4 (List.mem_of_getElem? (i := 42) rfl)
theorem k_283 : (.code y_Teller_finish prog_6_method_5_code 4 (some .boolean) : Cond) ∈ AW := inAW_4 (List.mem_of_getElem? (i := 43) rfl)
theorem k_284 : (.methodLink "TaleMachine$Teller" 68 y_Teller_halt : Cond) ∈ AW := inAW_4 (List.mem_of_getElem? (i := 44) rfl)
theorem k_285 : (.instanceMethod y_Teller_halt : Cond) ∈ AW := inAW_4 (List.mem_of_getElem? (i := 45) rfl)
theorem k_286 : (.selects "TaleMachine$Teller" y_Teller_halt y_Teller_halt : Cond) ∈ AW := inAW_4 (List.mem_of_getElem? (i := 46) rfl)
theorem k_287 : (.code y_Teller_halt prog_6_method_4_code 2 none : Cond) ∈ AW := inAW_4 (List.mem_of_getElem? (i := 47) rfl)
theorem k_288 : (.methodLink "TaleMachine$Teller" 59 y_History_dropPoints : Cond) ∈ AW := inAW_4 (List.mem_of_getElem? (i := 48) rfl)
theorem k_289 : (.instanceMethod y_History_dropPoints : Cond) ∈ AW := inAW_4 (List.mem_of_getElem? (i := 49) rfl)
theorem k_290 : (.selects "TaleMachine$History" y_History_dropPoints y_History_dropPoints : Cond) ∈ AW := inAW_4 (List.mem_of_getElem? (i := 50) rfl)
theorem k_291 : (.code y_History_dropPoints prog_3_method_7_code 1 none : Cond) ∈ AW := inAW_4 (List.mem_of_getElem? (i := 51) rfl)
theorem k_292 : (.methodLink "TaleMachine$Teller" 161 y_Teller_putTruthFor : Cond) ∈ AW := inAW_4 (List.mem_of_getElem? (i := 52) rfl)
theorem k_293 : (.instanceMethod y_Teller_putTruthFor : Cond) ∈ AW := inAW_4 (List.mem_of_getElem? (i := 53) rfl)
theorem k_294 : (.code y_Teller_putTruthFor prog_6_method_11_code 4 (some .boolean) : Cond) ∈ AW := inAW_4 (List.mem_of_getElem? (i := 54) rfl)
theorem k_295 : (.methodLink "TaleMachine$Teller" 226 y_Teller_number : Cond) ∈ AW := inAW_4 (List.mem_of_getElem? (i := 55) rfl)
theorem k_296 : (.static y_Teller_number : Cond) ∈ AW := inAW_4 (List.mem_of_getElem? (i := 56) rfl)
theorem k_297 : (.code y_Teller_number prog_6_method_21_code 3 (some .int) : Cond) ∈ AW := inAW_4 (List.mem_of_getElem? (i := 57) rfl)
theorem k_298 : (.methodLink "TaleMachine$Teller" 155 y_Teller_like : Cond) ∈ AW := inAW_4 (List.mem_of_getElem? (i := 58) rfl)
theorem k_299 : (.instanceMethod y_Teller_like : Cond) ∈ AW := inAW_4 (List.mem_of_getElem? (i := 59) rfl)
theorem k_300 : (.code y_Teller_like prog_6_method_22_code 4 (some .boolean) : Cond) ∈ AW := inAW_5 (List.mem_of_getElem? (i := 0) rfl)
theorem k_301 : (.methodLink "TaleMachine$Teller" 158 y_Teller_isFalse : Cond) ∈ AW := inAW_5 (List.mem_of_getElem? (i := 1) rfl)
theorem k_302 : (.instanceMethod y_Teller_isFalse : Cond) ∈ AW := inAW_5 (List.mem_of_getElem? (i := 2) rfl)
theorem k_303 : (.code y_Teller_isFalse prog_6_method_17_code 2 (some .boolean) : Cond) ∈ AW := inAW_5 (List.mem_of_getElem? (i := 3) rfl)
theorem k_304 : (.methodLink "TaleMachine$Teller" 165 y_Teller_jump : Cond) ∈ AW := inAW_5 (List.mem_of_getElem? (i := 4) rfl)
theorem k_305 : (.instanceMethod y_Teller_jump : Cond) ∈ AW := inAW_5 (List.mem_of_getElem? (i := 5) rfl)
theorem k_306 : (.code y_Teller_jump prog_6_method_23_code 3 (some .boolean) : Cond) ∈ AW := inAW_5 (List.mem_of_getElem? (i := 6) rfl)
theorem k_307 : (.methodLink "TaleMachine$Teller" 168 y_Teller_jumpIfFalse : Cond) ∈ AW := inAW_5 (List.mem_of_getElem? (i := 7) rfl)
theorem k_308 : (.instanceMethod y_Teller_jumpIfFalse : Cond) ∈ AW := inAW_5 (List.mem_of_getElem? (i := 8) rfl)
theorem k_309 : (.code y_Teller_jumpIfFalse prog_6_method_24_code 4 (some .boolean) : Cond) ∈ AW := inAW_5 (List.mem_of_getElem? (i := 9) rfl)
theorem k_310 : (.methodLink "TaleMachine$Teller" 171 y_Teller_ask : Cond) ∈ AW := inAW_5 (List.mem_of_getElem? (i := 10) rfl)
theorem k_311 : (.instanceMethod y_Teller_ask : Cond) ∈ AW := inAW_5 (List.mem_of_getElem? (i := 11) rfl)
theorem k_312 : (.code y_Teller_ask prog_6_method_25_code 5 (some .boolean) : Cond) ∈ AW := inAW_5 (List.mem_of_getElem? (i := 12) rfl)
theorem k_313 : (.static y_TM_isProperty : Cond) ∈ AW := inAW_5 (List.mem_of_getElem? (i := 13) rfl)
theorem k_314 : (.code y_TM_isProperty prog_1_method_14_code 1 (some .boolean) : Cond) ∈ AW := inAW_5 (List.mem_of_getElem? (i := 14) rfl)
theorem k_315 : (.methodLink "TaleMachine$Teller" 190 y_Teller_isObjectOnTop : Cond) ∈ AW := inAW_5 (List.mem_of_getElem? (i := 15) rfl)
theorem k_316 : (.instanceMethod y_Teller_isObjectOnTop : Cond) ∈ AW := inAW_5 (List.mem_of_getElem? (i := 16) rfl)
theorem k_317 : (.code y_Teller_isObjectOnTop prog_6_method_16_code 2 (some .boolean) : Cond) ∈ AW := inAW_5 (List.mem_of_getElem? (i := 17) rfl)
theorem k_318 : (.methodLink "TaleMachine$Teller" 232 y_World_holder : Cond) ∈ AW := inAW_5 (List.mem_of_getElem? (i := 18) rfl)
theorem k_319 : (.instanceMethod y_World_holder : Cond) ∈ AW := inAW_5 (List.mem_of_getElem? (i := 19) rfl)
theorem k_320 : (.selects "TaleMachine$World" y_World_holder y_World_holder : Cond) ∈ AW := inAW_5 (List.mem_of_getElem? (i := 20) rfl)
theorem k_321 : (.code y_World_holder prog_8_method_15_code 3 (some .int) : Cond) ∈ AW := inAW_5 (List.mem_of_getElem? (i := 21) rfl)
theorem k_322 : (.methodLink "TaleMachine$World" 72 y_World_lay : Cond) ∈ AW := inAW_5 (List.mem_of_getElem? (i := 22) rfl)
theorem k_323 : (.methodLink "TaleMachine$World" 75 y_World_holderFrom : Cond) ∈ AW := inAW_5 (List.mem_of_getElem? (i := 23) rfl)
theorem k_324 : (.instanceMethod y_World_holderFrom : Cond) ∈ AW := inAW_5 (List.mem_of_getElem? (i := 24) rfl)
theorem k_325 : (.code y_World_holderFrom prog_8_method_14_code 4 (some .int) : Cond) ∈ AW := inAW_5 (List.mem_of_getElem? (i := 25) rfl)
theorem k_326 : (.methodLink "TaleMachine$World" 69 y_World_ownKind : Cond) ∈ AW := inAW_5 (List.mem_of_getElem? (i := 26) rfl)
theorem k_327 : (.instanceMethod y_World_ownKind : Cond) ∈ AW := inAW_5 (List.mem_of_getElem? (i := 27) rfl)
theorem k_328 : (.selects "TaleMachine$World" y_World_ownKind y_World_ownKind : Cond) ∈ AW := inAW_5 (List.mem_of_getElem? (i := 28) rfl)
theorem k_329 : (.code y_World_ownKind prog_8_method_5_code 3 (some .int) : Cond) ∈ AW := inAW_5 (List.mem_of_getElem? (i := 29) rfl)
theorem k_330 : (.methodLink "TaleMachine$Teller" 235 y_Teller_answer : Cond) ∈ AW := inAW_5 (List.mem_of_getElem? (i := 30) rfl)
theorem k_331 : (.instanceMethod y_Teller_answer : Cond) ∈ AW := inAW_5 (List.mem_of_getElem? (i := 31) rfl)
theorem k_332 : (.code y_Teller_answer prog_6_method_27_code 9 (some .boolean) : Cond) ∈ AW := inAW_5 (List.mem_of_getElem? (i := 32) rfl)
theorem k_333 : (.methodLink "TaleMachine$Teller" 242 y_World_ownKind : Cond) ∈ AW := inAW_5 (List.mem_of_getElem? (i := 33) rfl)
theorem k_334 : (.methodLink "TaleMachine$Teller" 245 y_World_ownInt : Cond) ∈ AW := inAW_5 (List.mem_of_getElem? (i := 34) rfl)
theorem k_335 : (.instanceMethod y_World_ownInt : Cond) ∈ AW := inAW_5 (List.mem_of_getElem? (i := 35) rfl)
theorem k_336 : (.selects "TaleMachine$World" y_World_ownInt y_World_ownInt : Cond) ∈ AW := inAW_5 (List.mem_of_getElem? (i := 36) rfl)
theorem k_337 : (.code y_World_ownInt prog_8_method_6_code 3 (some .int) : Cond) ∈ AW := inAW_5 (List.mem_of_getElem? (i := 37) rfl)
theorem k_338 : (.methodLink "TaleMachine$Teller" 55 y_Teller_enter : Cond) ∈ AW := inAW_5 (List.mem_of_getElem? (i := 38) rfl)
theorem k_339 : (.instanceMethod y_Teller_enter : Cond) ∈ AW := inAW_5 (List.mem_of_getElem? (i := 39) rfl)
theorem k_340 : (.code y_Teller_enter prog_6_method_28_code 8 (some .boolean) : Cond) ∈ AW := inAW_5 (List.mem_of_getElem? (i := 40) rfl)
theorem k_341 : (.methodLink "TaleMachine$Teller" 248 y_Script_isMethod : Cond) ∈ AW := inAW_5 (List.mem_of_getElem? (i := 41) rfl)
theorem k_342 : (.instanceMethod y_Script_isMethod : Cond) ∈ AW := inAW_5 (List.mem_of_getElem? (i := 42) rfl)
theorem k_343 : (.selects "TaleMachine$Script" y_Script_isMethod y_Script_isMethod : Cond) ∈ AW := inAW_5 (List.mem_of_getElem? (i := 43) rfl)
theorem k_344 : (.code y_Script_isMethod prog_4_method_8_code 5 (some .boolean) : Cond) ∈ AW := inAW_5 (List.mem_of_getElem? (i := 44) rfl)
theorem k_345 : (.methodLink "TaleMachine$Teller" 251 y_Script_locals : Cond) ∈ AW := inAW_5 (List.mem_of_getElem? (i := 45) rfl)
theorem k_346 : (.instanceMethod y_Script_locals : Cond) ∈ AW := inAW_5 (List.mem_of_getElem? (i := 46) rfl)
theorem k_347 : (.selects "TaleMachine$Script" y_Script_locals y_Script_locals : Cond) ∈ AW := inAW_5 (List.mem_of_getElem? (i := 47) rfl)
theorem k_348 : (.code y_Script_locals prog_4_method_9_code 2 (some .int) : Cond) ∈ AW := inAW_5 (List.mem_of_getElem? (i := 48) rfl)
theorem k_349 : (.methodLink "TaleMachine$Teller" 257 y_Script_beginning : Cond) ∈ AW := inAW_5 (List.mem_of_getElem? (i := 49) rfl)
theorem k_350 : (.instanceMethod y_Script_beginning : Cond) ∈ AW := inAW_5 (List.mem_of_getElem? (i := 50) rfl)
theorem k_351 : (.selects "TaleMachine$Script" y_Script_beginning y_Script_beginning : Cond) ∈ AW := inAW_5 (List.mem_of_getElem? (i := 51) rfl)
theorem k_352 : (.code y_Script_beginning prog_4_method_10_code 2 (some .int) : Cond) ∈ AW := inAW_5 (List.mem_of_getElem? (i := 52) rfl)
theorem k_353 : (.methodLink "TaleMachine$Teller" 174 y_Teller_setOwn : Cond) ∈ AW := inAW_5 (List.mem_of_getElem? (i := 53) rfl)
theorem k_354 : (.instanceMethod y_Teller_setOwn : Cond) ∈ AW := inAW_5 (List.mem_of_getElem? (i := 54) rfl)
theorem k_355 : (.code y_Teller_setOwn prog_6_method_29_code 4 (some .boolean) : Cond) ∈ AW := inAW_5 (List.mem_of_getElem? (i := 55) rfl)
theorem k_356 : (.methodLink "TaleMachine$Teller" 262 y_World_setOwn : Cond) ∈ AW := inAW_5 (List.mem_of_getElem? (i := 56) rfl)
theorem k_357 : (.instanceMethod y_World_setOwn : Cond) ∈ AW := inAW_5 (List.mem_of_getElem? (i := 57) rfl)
theorem k_358 : (.selects "TaleMachine$World" y_World_setOwn y_World_setOwn : Cond) ∈ AW := inAW_5 (List.mem_of_getElem? (i := 58) rfl)
theorem k_359 : (.code y_World_setOwn prog_8_method_7_code 5 none : Cond) ∈ AW := inAW_5 (List.mem_of_getElem? (i := 59) rfl)
theorem k_360 : (.methodLink "TaleMachine$Teller" 177 y_Teller_inherited : Cond) ∈ AW := inAW_6 (List.mem_of_getElem? (i := 0) rfl)
theorem k_361 : (.instanceMethod y_Teller_inherited : Cond) ∈ AW := inAW_6 (List.mem_of_getElem? (i := 1) rfl)
theorem k_362 : (.code y_Teller_inherited prog_6_method_26_code 4 (some .boolean) : Cond) ∈ AW := inAW_6 (List.mem_of_getElem? (i := 2) rfl)
theorem k_363 : (.methodLink "TaleMachine$Teller" 239 y_World_holderBehind : Cond) ∈ AW := inAW_6 (List.mem_of_getElem? (i := 3) rfl)
theorem k_364 : (.instanceMethod y_World_holderBehind : Cond) ∈ AW := inAW_6 (List.mem_of_getElem? (i := 4) rfl)
theorem k_365 : (.selects "TaleMachine$World" y_World_holderBehind y_World_holderBehind : Cond) ∈ AW := inAW_6 (List.mem_of_getElem? (i := 5) rfl)
theorem k_366 : (.code y_World_holderBehind prog_8_method_16_code 5 (some .int) : Cond) ∈ AW := inAW_6 (List.mem_of_getElem? (i := 6) rfl)
theorem k_367 : (.methodLink "TaleMachine$World" 78 y_World_inLine : Cond) ∈ AW := inAW_6 (List.mem_of_getElem? (i := 7) rfl)
theorem k_368 : (.methodLink "TaleMachine$Teller" 187 y_Teller_end : Cond) ∈ AW := inAW_6 (List.mem_of_getElem? (i := 8) rfl)
theorem k_369 : (.instanceMethod y_Teller_end : Cond) ∈ AW := inAW_6 (List.mem_of_getElem? (i := 9) rfl)
theorem k_370 : (.code y_Teller_end prog_6_method_30_code 4 (some .boolean) : Cond) ∈ AW := inAW_6 (List.mem_of_getElem? (i := 10) rfl)
theorem k_371 : (.methodLink "TaleMachine$Teller" 196 y_Teller_make : Cond) ∈ AW := inAW_6 (List.mem_of_getElem? (i := 11) rfl)
theorem k_372 : (.instanceMethod y_Teller_make : Cond) ∈ AW := inAW_6 (List.mem_of_getElem? (i := 12) rfl)
theorem k_373 : (.code y_Teller_make prog_6_method_33_code 4 (some .boolean) : Cond) ∈ AW := inAW_6 (List.mem_of_getElem? (i := 13) rfl)
theorem k_374 : (.methodLink "TaleMachine$Teller" 205 y_Values_isFull : Cond) ∈ AW := inAW_6 (List.mem_of_getElem? (i := 14) rfl)
theorem k_375 : (.instanceMethod y_Values_isFull : Cond) ∈ AW := inAW_6 (List.mem_of_getElem? (i := 15) rfl)
theorem k_376 : (.selects "TaleMachine$Values" y_Values_isFull y_Values_isFull : Cond) ∈ AW := inAW_6 (List.mem_of_getElem? (i := 16) rfl)
theorem k_377 : (.code y_Values_isFull prog_7_method_2_code 1 (some .boolean) : Cond) ∈ AW := inAW_6 (List.mem_of_getElem? (i := 17) rfl)
theorem k_378 : (.methodLink "TaleMachine$Teller" 279 y_World_make : Cond) ∈ AW := inAW_6 (List.mem_of_getElem? (i := 18) rfl)
theorem k_379 : (.instanceMethod y_World_make : Cond) ∈ AW := inAW_6 (List.mem_of_getElem? (i := 19) rfl)
theorem k_380 : (.selects "TaleMachine$World" y_World_make y_World_make : Cond) ∈ AW := inAW_6 (List.mem_of_getElem? (i := 20) rfl)
theorem k_381 : (.code y_World_make prog_8_method_10_code 3 (some .int) : Cond) ∈ AW := inAW_6 (List.mem_of_getElem? (i := 21) rfl)
theorem k_382 : (.methodLink "TaleMachine$World" 55 y_World_clearOwn : Cond) ∈ AW := inAW_6 (List.mem_of_getElem? (i := 22) rfl)
theorem k_383 : (.instanceMethod y_World_clearOwn : Cond) ∈ AW := inAW_6 (List.mem_of_getElem? (i := 23) rfl)
theorem k_384 : (.code y_World_clearOwn prog_8_method_11_code 3 none : Cond) ∈ AW := inAW_6 (List.mem_of_getElem? (i := 24) rfl)
theorem k_385 : (.methodLink "TaleMachine$World" 59 y_World_setOwn : Cond) ∈ AW := inAW_6 (List.mem_of_getElem? (i := 25) rfl)
theorem k_386 : (.methodLink "TaleMachine$Teller" 199 y_Teller_testOf : Cond) ∈ AW := inAW_6 (List.mem_of_getElem? (i := 26) rfl)
theorem k_387 : (.instanceMethod y_Teller_testOf : Cond) ∈ AW := inAW_6 (List.mem_of_getElem? (i := 27) rfl)
theorem k_388 : (.code y_Teller_testOf prog_6_method_34_code 3 (some .boolean) : Cond) ∈ AW := inAW_6 (List.mem_of_getElem? (i := 28) rfl)
theorem k_389 : (.methodLink "TaleMachine$Teller" 281 y_World_descends : Cond) ∈ AW := inAW_6 (List.mem_of_getElem? (i := 29) rfl)
theorem k_390 : (.instanceMethod y_World_descends : Cond) ∈ AW := inAW_6 (List.mem_of_getElem? (i := 30) rfl)
theorem k_391 : (.selects "TaleMachine$World" y_World_descends y_World_descends : Cond) ∈ AW := inAW_6 (List.mem_of_getElem? (i := 31) rfl)
theorem k_392 : (.code y_World_descends prog_8_method_17_code 3 (some .boolean) : Cond) ∈ AW := inAW_6 (List.mem_of_getElem? (i := 32) rfl)
theorem k_393 : (.methodLink "TaleMachine$World" 82 y_World_isThere : Cond) ∈ AW := inAW_6 (List.mem_of_getElem? (i := 33) rfl)
theorem k_394 : (.methodLink "TaleMachine$Teller" 202 y_Teller_setPoint : Cond) ∈ AW := inAW_6 (List.mem_of_getElem? (i := 34) rfl)
theorem k_395 : (.instanceMethod y_Teller_setPoint : Cond) ∈ AW := inAW_6 (List.mem_of_getElem? (i := 35) rfl)
theorem k_396 : (.code y_Teller_setPoint prog_6_method_35_code 2 (some .boolean) : Cond) ∈ AW := inAW_6 (List.mem_of_getElem? (i := 36) rfl)
theorem k_397 : (.methodLink "TaleMachine$Teller" 284 y_History_setPoint : Cond) ∈ AW := inAW_6 (List.mem_of_getElem? (i := 37) rfl)
theorem k_398 : (.instanceMethod y_History_setPoint : Cond) ∈ AW := inAW_6 (List.mem_of_getElem? (i := 38) rfl)
theorem k_399 : (.selects "TaleMachine$History" y_History_setPoint y_History_setPoint : Cond) ∈ AW := inAW_6 (List.mem_of_getElem? (i := 39) rfl)
theorem k_400 : (.code y_History_setPoint prog_3_method_2_code 2 none : Cond) ∈ AW := inAW_6 (List.mem_of_getElem? (i := 40) rfl)
theorem k_401 : (.methodLink "TaleMachine$History" 29 y_History_dropOldest : Cond) ∈ AW := inAW_6 (List.mem_of_getElem? (i := 41) rfl)
theorem k_402 : (.instanceMethod y_History_dropOldest : Cond) ∈ AW := inAW_6 (List.mem_of_getElem? (i := 42) rfl)
theorem k_403 : (.code y_History_dropOldest prog_3_method_3_code 3 none : Cond) ∈ AW := inAW_6 (List.mem_of_getElem? (i := 43) rfl)
theorem k_404 : (.methodLink "TaleMachine$History" 32 y_State_copy : Cond) ∈ AW := inAW_6 (List.mem_of_getElem? (i := 44) rfl)
theorem k_405 : (.instanceMethod y_State_copy : Cond) ∈ AW := inAW_6 (List.mem_of_getElem? (i := 45) rfl)
theorem k_406 : (.selects "TaleMachine$State" y_State_copy y_State_copy : Cond) ∈ AW := inAW_6 (List.mem_of_getElem? (i := 46) rfl)
theorem k_407 : (.code y_State_copy prog_5_method_2_code 2 none : Cond) ∈ AW := inAW_6 (List.mem_of_getElem? (i := 47) rfl)
theorem k_408 : (.methodLink "TaleMachine$State" 27 ⟨"java/lang/System", "arraycopy", "(Ljava/lang/Object;ILjava/lang/Object;II)V"⟩ : Cond) ∈ AW := inAW_6 (List.mem_of_getElem? (i := 48) rfl)
theorem k_409 : (.methodLink "TaleMachine$Teller" 213 y_History_undo : Cond) ∈ AW := inAW_6 (List.mem_of_getElem? (i := 49) rfl)
theorem k_410 : (.instanceMethod y_History_undo : Cond) ∈ AW := inAW_6 (List.mem_of_getElem? (i := 50) rfl)
theorem k_411 : (.selects "TaleMachine$History" y_History_undo y_History_undo : Cond) ∈ AW := inAW_6 (List.mem_of_getElem? (i := 51) rfl)
theorem k_412 : (.code y_History_undo prog_3_method_4_code 2 (some .boolean) : Cond) ∈ AW := inAW_6 (List.mem_of_getElem? (i := 52) rfl)
theorem k_413 : (.methodLink "TaleMachine$Teller" 217 y_Teller_save : Cond) ∈ AW := inAW_6 (List.mem_of_getElem? (i := 53) rfl)
theorem k_414 : (.instanceMethod y_Teller_save : Cond) ∈ AW := inAW_6 (List.mem_of_getElem? (i := 54) rfl)
theorem k_415 : (.code y_Teller_save prog_6_method_36_code 3 (some .boolean) : Cond) ∈ AW := inAW_6 (List.mem_of_getElem? (i := 55) rfl)
theorem k_416 : (.methodLink "TaleMachine$Teller" 287 y_History_save : Cond) ∈ AW := inAW_6 (List.mem_of_getElem? (i := 56) rfl)
theorem k_417 : (.instanceMethod y_History_save : Cond) ∈ AW := inAW_6 (List.mem_of_getElem? (i := 57) rfl)
theorem k_418 : (.selects "TaleMachine$History" y_History_save y_History_save : Cond) ∈ AW := inAW_6 (List.mem_of_getElem? (i := 58) rfl)
theorem k_419 : (.code y_History_save prog_3_method_5_code 3 none : Cond) ∈ AW := inAW_6 (List.mem_of_getElem? (i := 59) rfl)
theorem k_420 : (.methodLink "TaleMachine$Teller" 220 y_Teller_bringBack : Cond) ∈ AW := inAW_7 (List.mem_of_getElem? (i := 0) rfl)
theorem k_421 : (.instanceMethod y_Teller_bringBack : Cond) ∈ AW := inAW_7 (List.mem_of_getElem? (i := 1) rfl)
theorem k_422 : (.code y_Teller_bringBack prog_6_method_37_code 3 (some .boolean) : Cond) ∈ AW := inAW_7 (List.mem_of_getElem? (i := 2) rfl)
theorem k_423 : (.methodLink "TaleMachine$Teller" 290 y_History_bringBack : Cond) ∈ AW := inAW_7 (List.mem_of_getElem? (i := 3) rfl)
theorem k_424 : (.instanceMethod y_History_bringBack : Cond) ∈ AW := inAW_7 (List.mem_of_getElem? (i := 4) rfl)
theorem k_425 : (.selects "TaleMachine$History" y_History_bringBack y_History_bringBack : Cond) ∈ AW := inAW_7 (List.mem_of_getElem? (i := 5) rfl)
theorem k_426 : (.code y_History_bringBack prog_3_method_6_code 3 (some .boolean) : Cond) ∈ AW := inAW_7 (List.mem_of_getElem? (i := 6) rfl)
theorem k_427 : (.methodLink "TaleMachine" 120 y_Teller_halt : Cond) ∈ AW := inAW_7 (List.mem_of_getElem? (i := 7) rfl)
theorem k_428 : (.methodLink "TaleMachineLaw" 72 y_TM_stop : Cond) ∈ AW := inAW_7 (List.mem_of_getElem? (i := 8) rfl)
theorem k_429 : (.instanceMethod y_TM_stop : Cond) ∈ AW := inAW_7 (List.mem_of_getElem? (i := 9) rfl)
theorem k_430 : (.selects "TaleMachine" y_TM_stop y_TM_stop : Cond) ∈ AW := inAW_7 (List.mem_of_getElem? (i := 10) rfl)
theorem k_431 : (.code y_TM_stop prog_1_method_7_code 1 (some .boolean) : Cond) ∈ AW := inAW_7 (List.mem_of_getElem? (i := 11) rfl)
theorem k_432 : (.methodLink "TaleMachineLaw" 77 y_TM_collect : Cond) ∈ AW := inAW_7 (List.mem_of_getElem? (i := 12) rfl)
theorem k_433 : (.instanceMethod y_TM_collect : Cond) ∈ AW := inAW_7 (List.mem_of_getElem? (i := 13) rfl)
theorem k_434 : (.selects "TaleMachine" y_TM_collect y_TM_collect : Cond) ∈ AW := inAW_7 (List.mem_of_getElem? (i := 14) rfl)
theorem k_435 : (.code y_TM_collect prog_1_method_8_code 1 (some .int) : Cond) ∈ AW := inAW_7 (List.mem_of_getElem? (i := 15) rfl)
theorem k_436 : (.methodLink "TaleMachine" 124 y_World_forgetReached : Cond) ∈ AW := inAW_7 (List.mem_of_getElem? (i := 16) rfl)
theorem k_437 : (.instanceMethod y_World_forgetReached : Cond) ∈ AW := inAW_7 (List.mem_of_getElem? (i := 17) rfl)
theorem k_438 : (.selects "TaleMachine$World" y_World_forgetReached y_World_forgetReached : Cond) ∈ AW := inAW_7 (List.mem_of_getElem? (i := 18) rfl)
theorem k_439 : (.code y_World_forgetReached prog_8_method_18_code 1 none : Cond) ∈ AW := inAW_7 (List.mem_of_getElem? (i := 19) rfl)
theorem k_440 : (.methodLink "TaleMachine" 127 y_Teller_reachRoots : Cond) ∈ AW := inAW_7 (List.mem_of_getElem? (i := 20) rfl)
theorem k_441 : (.instanceMethod y_Teller_reachRoots : Cond) ∈ AW := inAW_7 (List.mem_of_getElem? (i := 21) rfl)
theorem k_442 : (.selects "TaleMachine$Teller" y_Teller_reachRoots y_Teller_reachRoots : Cond) ∈ AW := inAW_7 (List.mem_of_getElem? (i := 22) rfl)
theorem k_443 : (.code y_Teller_reachRoots prog_6_method_6_code 2 none : Cond) ∈ AW := inAW_7 (List.mem_of_getElem? (i := 23) rfl)
theorem k_444 : (.methodLink "TaleMachine$Teller" 78 y_World_reachValue : Cond) ∈ AW := inAW_7 (List.mem_of_getElem? (i := 24) rfl)
theorem k_445 : (.instanceMethod y_World_reachValue : Cond) ∈ AW := inAW_7 (List.mem_of_getElem? (i := 25) rfl)
theorem k_446 : (.selects "TaleMachine$World" y_World_reachValue y_World_reachValue : Cond) ∈ AW := inAW_7 (List.mem_of_getElem? (i := 26) rfl)
theorem k_447 : (.code y_World_reachValue prog_8_method_20_code 3 none : Cond) ∈ AW := inAW_7 (List.mem_of_getElem? (i := 27) rfl)
theorem k_448 : (.methodLink "TaleMachine$World" 91 y_World_reach : Cond) ∈ AW := inAW_7 (List.mem_of_getElem? (i := 28) rfl)
theorem k_449 : (.instanceMethod y_World_reach : Cond) ∈ AW := inAW_7 (List.mem_of_getElem? (i := 29) rfl)
theorem k_450 : (.selects "TaleMachine$World" y_World_reach y_World_reach : Cond) ∈ AW := inAW_7 (List.mem_of_getElem? (i := 30) rfl)
theorem k_451 : (.code y_World_reach prog_8_method_19_code 2 none : Cond) ∈ AW := inAW_7 (List.mem_of_getElem? (i := 31) rfl)
theorem k_452 : (.methodLink "TaleMachine$Teller" 87 y_World_reach : Cond) ∈ AW := inAW_7 (List.mem_of_getElem? (i := 32) rfl)
theorem k_453 : (.methodLink "TaleMachine" 130 y_World_sweep : Cond) ∈ AW := inAW_7 (List.mem_of_getElem? (i := 33) rfl)
theorem k_454 : (.instanceMethod y_World_sweep : Cond) ∈ AW := inAW_7 (List.mem_of_getElem? (i := 34) rfl)
theorem k_455 : (.selects "TaleMachine$World" y_World_sweep y_World_sweep : Cond) ∈ AW := inAW_7 (List.mem_of_getElem? (i := 35) rfl)
theorem k_456 : (.code y_World_sweep prog_8_method_21_code 3 (some .int) : Cond) ∈ AW := inAW_7 (List.mem_of_getElem? (i := 36) rfl)
theorem k_457 : (.methodLink "TaleMachine$World" 94 y_World_reachFrom : Cond) ∈ AW := inAW_7 (List.mem_of_getElem? (i := 37) rfl)
theorem k_458 : (.instanceMethod y_World_reachFrom : Cond) ∈ AW := inAW_7 (List.mem_of_getElem? (i := 38) rfl)
theorem k_459 : (.code y_World_reachFrom prog_8_method_22_code 3 none : Cond) ∈ AW := inAW_7 (List.mem_of_getElem? (i := 39) rfl)
theorem k_460 : (.methodLink "TaleMachine$World" 97 y_World_ownInt : Cond) ∈ AW := inAW_7 (List.mem_of_getElem? (i := 40) rfl)
theorem k_461 : (.methodLink "TaleMachine$World" 100 y_World_reachValue : Cond) ∈ AW := inAW_7 (List.mem_of_getElem? (i := 41) rfl)
theorem k_462 : (.methodLink "TaleMachineLaw" 95 y_TM_isOf : Cond) ∈ AW := inAW_7 (List.mem_of_getElem? (i := 42) rfl)
theorem k_463 : (.instanceMethod y_TM_isOf : Cond) ∈ AW := inAW_7 (List.mem_of_getElem? (i := 43) rfl)
theorem k_464 : (.selects "TaleMachine" y_TM_isOf y_TM_isOf : Cond) ∈ AW := inAW_7 (List.mem_of_getElem? (i := 44) rfl)
theorem k_465 : (.code y_TM_isOf prog_1_method_13_code 3 (some .boolean) : Cond) ∈ AW := inAW_7 (List.mem_of_getElem? (i := 45) rfl)
theorem k_466 : (.methodLink "TaleMachine" 179 y_World_descends : Cond) ∈ AW := inAW_7 (List.mem_of_getElem? (i := 46) rfl)
theorem k_467 : (.methodLink "TaleMachineLaw" 50 y_Law_object : Cond) ∈ AW := inAW_7 (List.mem_of_getElem? (i := 47) rfl)
theorem k_468 : (.static y_Law_object : Cond) ∈ AW := inAW_7 (List.mem_of_getElem? (i := 48) rfl)
theorem k_469 : (.codeWith y_Law_object method_3_code 6 (some .int) [(0, 12, 15, 13), (0, 12, 19, 15)] : Cond) ∈ AW := inAW_7 (List.mem_of_getElem? (i := 49) rfl)
theorem k_470 : (.classLink "TaleMachineLaw" 13 "java/lang/IllegalArgumentException" : Cond) ∈ AW := inAW_7 (List.mem_of_getElem? (i := 50) rfl)
theorem k_471 : (.classLink "TaleMachineLaw" 15 "java/lang/IllegalStateException" : Cond) ∈ AW := inAW_7 (List.mem_of_getElem? (i := 51) rfl)
theorem k_472 : (.methodLink "TaleMachineLaw" 7 y_TM_object : Cond) ∈ AW := inAW_7 (List.mem_of_getElem? (i := 52) rfl)
theorem k_473 : (.instanceMethod y_TM_object : Cond) ∈ AW := inAW_7 (List.mem_of_getElem? (i := 53) rfl)
theorem k_474 : (.selects "TaleMachine" y_TM_object y_TM_object : Cond) ∈ AW := inAW_7 (List.mem_of_getElem? (i := 54) rfl)
theorem k_475 : (.code y_TM_object prog_1_method_3_code 5 (some .int) : Cond) ∈ AW := inAW_7 (List.mem_of_getElem? (i := 55) rfl)
theorem k_476 : (.methodLink "TaleMachine" 43 y_World_isFixed : Cond) ∈ AW := inAW_7 (List.mem_of_getElem? (i := 56) rfl)
theorem k_477 : (.classLink "TaleMachine" 47 "java/lang/IllegalArgumentException" : Cond) ∈ AW := inAW_7 (List.mem_of_getElem? (i := 57) rfl)
theorem k_478 : (.instantiable "java/lang/IllegalArgumentException" 6 : Cond) ∈ AW := inAW_7 (List.mem_of_getElem? (i := 58) rfl)
theorem k_479 : (.selects "java/lang/IllegalArgumentException" ⟨"java/lang/Throwable", "fillInStackTrace", "(I)Ljava/lang/Throwable;"⟩ ⟨"java/lang/Throwable", "fillInStackTrace", "(I)Ljava/lang/Throwable;"⟩ : Cond) ∈ AW := inAW_7 (List.mem_of_getElem? (i := 59) rfl)
theorem k_480 : (.selects "java/lang/IllegalArgumentException" ⟨"java/lang/Throwable", "fillInStackTrace", "()Ljava/lang/Throwable;"⟩ ⟨"java/lang/Throwable", "fillInStackTrace", "()Ljava/lang/Throwable;"⟩ : Cond) ∈ AW := inAW_8 (List.mem_of_getElem? (i := 0) rfl)
theorem k_481 : (.lays "java/lang/IllegalArgumentException" "java/lang/Throwable" "cause" "Ljava/lang/Throwable;" : Cond) ∈ AW := inAW_8 (List.mem_of_getElem? (i := 1) rfl)
theorem k_482 : (.lays "java/lang/Throwable" "java/lang/Throwable" "cause" "Ljava/lang/Throwable;" : Cond) ∈ AW := inAW_8 (List.mem_of_getElem? (i := 2) rfl)
theorem k_483 : (.lays "java/lang/IllegalArgumentException" "java/lang/Throwable" "stackTrace" "[Ljava/lang/StackTraceElement;" : Cond) ∈ AW := inAW_8 (List.mem_of_getElem? (i := 3) rfl)
theorem k_484 : (.lays "java/lang/Throwable" "java/lang/Throwable" "stackTrace" "[Ljava/lang/StackTraceElement;" : Cond) ∈ AW := inAW_8 (List.mem_of_getElem? (i := 4) rfl)
theorem k_485 : (.lays "java/lang/IllegalArgumentException" "java/lang/Throwable" "suppressedExceptions" "Ljava/util/List;" : Cond) ∈ AW := inAW_8 (List.mem_of_getElem? (i := 5) rfl)
theorem k_486 : (.lays "java/lang/Throwable" "java/lang/Throwable" "suppressedExceptions" "Ljava/util/List;" : Cond) ∈ AW := inAW_8 (List.mem_of_getElem? (i := 6) rfl)
theorem k_487 : (.lays "java/lang/IllegalArgumentException" "java/lang/Throwable" "detailMessage" "Ljava/lang/String;" : Cond) ∈ AW := inAW_8 (List.mem_of_getElem? (i := 7) rfl)
theorem k_488 : (.lays "java/lang/Throwable" "java/lang/Throwable" "detailMessage" "Ljava/lang/String;" : Cond) ∈ AW := inAW_8 (List.mem_of_getElem? (i := 8) rfl)
theorem k_489 : (.lays "java/lang/IllegalArgumentException" "java/lang/Throwable" "backtrace" "Ljava/lang/Object;" : Cond) ∈ AW := inAW_8 (List.mem_of_getElem? (i := 9) rfl)
theorem k_490 : (.lays "java/lang/Throwable" "java/lang/Throwable" "backtrace" "Ljava/lang/Object;" : Cond) ∈ AW := inAW_8 (List.mem_of_getElem? (i := 10) rfl)
theorem k_491 : (.fieldLink "java/lang/Throwable" 198 "java/lang/Throwable" "backtrace" "Ljava/lang/Object;" : Cond) ∈ AW := inAW_8 (List.mem_of_getElem? (i := 11) rfl)
theorem k_492 : (.instanceMethod ⟨"java/lang/Throwable", "<init>", "()V"⟩ : Cond) ∈ AW := inAW_8 (List.mem_of_getElem? (i := 12) rfl)
theorem k_493 : (.code ⟨"java/lang/Throwable", "<init>", "()V"⟩ prog_18_method_1_code 1 none : Cond) ∈ AW := inAW_8 (List.mem_of_getElem? (i := 13) rfl)
theorem k_494 : (.methodLink "java/lang/Throwable" 1 objectInit : Cond) ∈ AW := inAW_8 (List.mem_of_getElem? (i := 14) rfl)
theorem k_495 : (.fieldLink "java/lang/Throwable" 13 "java/lang/Throwable" "UNASSIGNED_STACK" "[Ljava/lang/StackTraceElement;" : Cond) ∈ AW := inAW_8 (List.mem_of_getElem? (i := 15) rfl)
theorem k_496 : (.fieldLink "java/lang/Throwable" 20 "java/lang/Throwable" "SUPPRESSED_SENTINEL" "Ljava/util/List;" : Cond) ∈ AW := inAW_8 (List.mem_of_getElem? (i := 16) rfl)
theorem k_497 : (.methodLink "java/lang/Throwable" 27 ⟨"java/lang/Throwable", "fillInStackTrace", "()Ljava/lang/Throwable;"⟩ : Cond) ∈ AW := inAW_8 (List.mem_of_getElem? (i := 17) rfl)
theorem k_498 : (.instanceMethod ⟨"java/lang/Throwable", "fillInStackTrace", "()Ljava/lang/Throwable;"⟩ : Cond) ∈ AW := inAW_8 (List.mem_of_getElem? (i := 18) rfl)
theorem k_499 : (.selects "java/lang/IllegalStateException" ⟨"java/lang/Throwable", "fillInStackTrace", "()Ljava/lang/Throwable;"⟩ ⟨"java/lang/Throwable", "fillInStackTrace", "()Ljava/lang/Throwable;"⟩ : Cond) ∈ AW := inAW_8 (List.mem_of_getElem? (i := 19) rfl)
theorem k_500 : (.selects "java/util/NoSuchElementException" ⟨"java/lang/Throwable", "fillInStackTrace", "()Ljava/lang/Throwable;"⟩ ⟨"java/lang/Throwable", "fillInStackTrace", "()Ljava/lang/Throwable;"⟩ : Cond) ∈ AW := inAW_8 (List.mem_of_getElem? (i := 20) rfl)
theorem k_501 : (.methodLink "java/lang/Throwable" 202 ⟨"java/lang/Throwable", "fillInStackTrace", "(I)Ljava/lang/Throwable;"⟩ : Cond) ∈ AW := inAW_8 (List.mem_of_getElem? (i := 21) rfl)
theorem k_502 : (.instanceMethod ⟨"java/lang/Throwable", "fillInStackTrace", "(I)Ljava/lang/Throwable;"⟩ : Cond) ∈ AW := inAW_8 (List.mem_of_getElem? (i := 22) rfl)
theorem k_503 : (.instantiable "java/lang/Throwable" 6 : Cond) ∈ AW := inAW_8 (List.mem_of_getElem? (i := 23) rfl)
theorem k_504 : (.native ⟨"java/lang/Throwable", "fillInStackTrace", "(I)Ljava/lang/Throwable;"⟩ : Cond) ∈ AW := inAW_8 (List.mem_of_getElem? (i := 24) rfl)
theorem k_505 : (.methodLink "TaleMachine" 51 ⟨"java/lang/IllegalArgumentException", "<init>", "(Ljava/lang/String;)V"⟩ : Cond) ∈ AW := inAW_8 (List.mem_of_getElem? (i := 25) rfl)
theorem k_506 : (.instanceMethod ⟨"java/lang/IllegalArgumentException", "<init>", "(Ljava/lang/String;)V"⟩ : Cond) ∈ AW := inAW_8 (List.mem_of_getElem? (i := 26) rfl)
theorem k_507 : (.code ⟨"java/lang/IllegalArgumentException", "<init>", "(Ljava/lang/String;)V"⟩ prog_12_method_2_code 2 none : Cond) ∈ AW := inAW_8 (List.mem_of_getElem? (i := 27) rfl)
theorem k_508 : (.methodLink "java/lang/IllegalArgumentException" 7 ⟨"java/lang/RuntimeException", "<init>", "(Ljava/lang/String;)V"⟩ : Cond) ∈ AW := inAW_8 (List.mem_of_getElem? (i := 28) rfl)
theorem k_509 : (.instanceMethod ⟨"java/lang/RuntimeException", "<init>", "(Ljava/lang/String;)V"⟩ : Cond) ∈ AW := inAW_8 (List.mem_of_getElem? (i := 29) rfl)
theorem k_510 : (.code ⟨"java/lang/RuntimeException", "<init>", "(Ljava/lang/String;)V"⟩ prog_15_method_2_code 2 none : Cond) ∈ AW := inAW_8 (List.mem_of_getElem? (i := 30) rfl)
theorem k_511 : (.methodLink "java/lang/RuntimeException" 7 ⟨"java/lang/Exception", "<init>", "(Ljava/lang/String;)V"⟩ : Cond) ∈ AW := inAW_8 (List.mem_of_getElem? (i := 31) rfl)
theorem k_512 : (.instanceMethod ⟨"java/lang/Exception", "<init>", "(Ljava/lang/String;)V"⟩ : Cond) ∈ AW := inAW_8 (List.mem_of_getElem? (i := 32) rfl)
theorem k_513 : (.code ⟨"java/lang/Exception", "<init>", "(Ljava/lang/String;)V"⟩ prog_11_method_2_code 2 none : Cond) ∈ AW := inAW_8 (List.mem_of_getElem? (i := 33) rfl)
theorem k_514 : (.methodLink "java/lang/Exception" 7 ⟨"java/lang/Throwable", "<init>", "(Ljava/lang/String;)V"⟩ : Cond) ∈ AW := inAW_8 (List.mem_of_getElem? (i := 34) rfl)
theorem k_515 : (.instanceMethod ⟨"java/lang/Throwable", "<init>", "(Ljava/lang/String;)V"⟩ : Cond) ∈ AW := inAW_8 (List.mem_of_getElem? (i := 35) rfl)
theorem k_516 : (.code ⟨"java/lang/Throwable", "<init>", "(Ljava/lang/String;)V"⟩ prog_18_method_2_code 2 none : Cond) ∈ AW := inAW_8 (List.mem_of_getElem? (i := 36) rfl)
theorem k_517 : (.fieldLink "java/lang/Throwable" 31 "java/lang/Throwable" "detailMessage" "Ljava/lang/String;" : Cond) ∈ AW := inAW_8 (List.mem_of_getElem? (i := 37) rfl)
theorem k_518 : (.fieldLink "java/lang/Throwable" 7 "java/lang/Throwable" "cause" "Ljava/lang/Throwable;" : Cond) ∈ AW := inAW_8 (List.mem_of_getElem? (i := 38) rfl)
theorem k_519 : (.fieldLink "java/lang/Throwable" 17 "java/lang/Throwable" "stackTrace" "[Ljava/lang/StackTraceElement;" : Cond) ∈ AW := inAW_8 (List.mem_of_getElem? (i := 39) rfl)
theorem k_520 : (.fieldLink "java/lang/Throwable" 24 "java/lang/Throwable" "suppressedExceptions" "Ljava/util/List;" : Cond) ∈ AW := inAW_8 (List.mem_of_getElem? (i := 40) rfl)
theorem k_521 : (.lays "java/lang/IllegalArgumentException" "java/lang/Throwable" "depth" "I" : Cond) ∈ AW := inAW_8 (List.mem_of_getElem? (i := 41) rfl)
theorem k_522 : (.arrayClass .byte : Cond) ∈ AW := inAW_8 (List.mem_of_getElem? (i := 42) rfl)
theorem k_523 : (.classLink "TaleMachine" 61 "java/lang/IllegalStateException" : Cond) ∈ AW := inAW_8 (List.mem_of_getElem? (i := 43) rfl)
theorem k_524 : (.instantiable "java/lang/IllegalStateException" 6 : Cond) ∈ AW := inAW_8 (List.mem_of_getElem? (i := 44) rfl)
theorem k_525 : (.selects "java/lang/IllegalStateException" ⟨"java/lang/Throwable", "fillInStackTrace", "(I)Ljava/lang/Throwable;"⟩ ⟨"java/lang/Throwable", "fillInStackTrace", "(I)Ljava/lang/Throwable;"⟩ : Cond) ∈ AW := inAW_8 (List.mem_of_getElem? (i := 45) rfl)
theorem k_526 : (.lays "java/lang/IllegalStateException" "java/lang/Throwable" "cause" "Ljava/lang/Throwable;" : Cond) ∈ AW := inAW_8 (List.mem_of_getElem? (i := 46) rfl)
theorem k_527 : (.lays "java/lang/IllegalStateException" "java/lang/Throwable" "stackTrace" "[Ljava/lang/StackTraceElement;" : Cond) ∈ AW := inAW_8 (List.mem_of_getElem? (i := 47) rfl)
theorem k_528 : (.lays "java/lang/IllegalStateException" "java/lang/Throwable" "suppressedExceptions" "Ljava/util/List;" : Cond) ∈ AW := inAW_8 (List.mem_of_getElem? (i := 48) rfl)
theorem k_529 : (.lays "java/lang/IllegalStateException" "java/lang/Throwable" "detailMessage" "Ljava/lang/String;" : Cond) ∈ AW := inAW_8 (List.mem_of_getElem? (i := 49) rfl)
theorem k_530 : (.lays "java/lang/IllegalStateException" "java/lang/Throwable" "backtrace" "Ljava/lang/Object;" : Cond) ∈ AW := inAW_8 (List.mem_of_getElem? (i := 50) rfl)
theorem k_531 : (.methodLink "TaleMachine" 65 ⟨"java/lang/IllegalStateException", "<init>", "(Ljava/lang/String;)V"⟩ : Cond) ∈ AW := inAW_8 (List.mem_of_getElem? (i := 51) rfl)
theorem k_532 : (.instanceMethod ⟨"java/lang/IllegalStateException", "<init>", "(Ljava/lang/String;)V"⟩ : Cond) ∈ AW := inAW_8 (List.mem_of_getElem? (i := 52) rfl)
theorem k_533 : (.code ⟨"java/lang/IllegalStateException", "<init>", "(Ljava/lang/String;)V"⟩ prog_13_method_2_code 2 none : Cond) ∈ AW := inAW_8 (List.mem_of_getElem? (i := 53) rfl)
theorem k_534 : (.methodLink "java/lang/IllegalStateException" 7 ⟨"java/lang/RuntimeException", "<init>", "(Ljava/lang/String;)V"⟩ : Cond) ∈ AW := inAW_8 (List.mem_of_getElem? (i := 54) rfl)
theorem k_535 : (.lays "java/lang/IllegalStateException" "java/lang/Throwable" "depth" "I" : Cond) ∈ AW := inAW_8 (List.mem_of_getElem? (i := 55) rfl)
theorem k_536 : (.methodLink "TaleMachine" 66 y_History_dropSaved : Cond) ∈ AW := inAW_8 (List.mem_of_getElem? (i := 56) rfl)
theorem k_537 : (.instanceMethod y_History_dropSaved : Cond) ∈ AW := inAW_8 (List.mem_of_getElem? (i := 57) rfl)
theorem k_538 : (.selects "TaleMachine$History" y_History_dropSaved y_History_dropSaved : Cond) ∈ AW := inAW_8 (List.mem_of_getElem? (i := 58) rfl)
theorem k_539 : (.code y_History_dropSaved prog_3_method_8_code 2 none : Cond) ∈ AW := inAW_8 (List.mem_of_getElem? (i := 59) rfl)
theorem k_540 : (.methodLink "TaleMachine" 69 y_World_fix : Cond) ∈ AW := inAW_9 (List.mem_of_getElem? (i := 0) rfl)
theorem k_541 : (.instanceMethod y_World_fix : Cond) ∈ AW := inAW_9 (List.mem_of_getElem? (i := 1) rfl)
theorem k_542 : (.selects "TaleMachine$World" y_World_fix y_World_fix : Cond) ∈ AW := inAW_9 (List.mem_of_getElem? (i := 2) rfl)
theorem k_543 : (.code y_World_fix prog_8_method_8_code 8 (some .int) : Cond) ∈ AW := inAW_9 (List.mem_of_getElem? (i := 3) rfl)
theorem k_544 : (.methodLink "TaleMachine$World" 51 y_World_gather : Cond) ∈ AW := inAW_9 (List.mem_of_getElem? (i := 4) rfl)
theorem k_545 : (.instanceMethod y_World_gather : Cond) ∈ AW := inAW_9 (List.mem_of_getElem? (i := 5) rfl)
theorem k_546 : (.code y_World_gather prog_8_method_9_code 6 (some .int) : Cond) ∈ AW := inAW_9 (List.mem_of_getElem? (i := 6) rfl)
theorem k_547 : (.methodLink "TaleMachineLaw" 56 y_Law_property : Cond) ∈ AW := inAW_9 (List.mem_of_getElem? (i := 7) rfl)
theorem k_548 : (.static y_Law_property : Cond) ∈ AW := inAW_9 (List.mem_of_getElem? (i := 8) rfl)
theorem k_549 : (.codeWith y_Law_property method_4_code 6 (some .int) [(0, 9, 12, 21), (0, 9, 16, 13), (0, 9, 20, 15)] : Cond) ∈ AW := inAW_9 (List.mem_of_getElem? (i := 9) rfl)
theorem k_550 : (.classLink "TaleMachineLaw" 21 "java/util/NoSuchElementException" : Cond) ∈ AW := inAW_9 (List.mem_of_getElem? (i := 10) rfl)
theorem k_551 : (.methodLink "TaleMachineLaw" 17 y_TM_property : Cond) ∈ AW := inAW_9 (List.mem_of_getElem? (i := 11) rfl)
theorem k_552 : (.instanceMethod y_TM_property : Cond) ∈ AW := inAW_9 (List.mem_of_getElem? (i := 12) rfl)
theorem k_553 : (.selects "TaleMachine" y_TM_property y_TM_property : Cond) ∈ AW := inAW_9 (List.mem_of_getElem? (i := 13) rfl)
theorem k_554 : (.code y_TM_property prog_1_method_4_code 5 none : Cond) ∈ AW := inAW_9 (List.mem_of_getElem? (i := 14) rfl)
theorem k_555 : (.methodLink "TaleMachine" 73 y_World_isThere : Cond) ∈ AW := inAW_9 (List.mem_of_getElem? (i := 15) rfl)
theorem k_556 : (.classLink "TaleMachine" 76 "java/util/NoSuchElementException" : Cond) ∈ AW := inAW_9 (List.mem_of_getElem? (i := 16) rfl)
theorem k_557 : (.instantiable "java/util/NoSuchElementException" 6 : Cond) ∈ AW := inAW_9 (List.mem_of_getElem? (i := 17) rfl)
theorem k_558 : (.selects "java/util/NoSuchElementException" ⟨"java/lang/Throwable", "fillInStackTrace", "(I)Ljava/lang/Throwable;"⟩ ⟨"java/lang/Throwable", "fillInStackTrace", "(I)Ljava/lang/Throwable;"⟩ : Cond) ∈ AW := inAW_9 (List.mem_of_getElem? (i := 18) rfl)
theorem k_559 : (.lays "java/util/NoSuchElementException" "java/lang/Throwable" "cause" "Ljava/lang/Throwable;" : Cond) ∈ AW := inAW_9 (List.mem_of_getElem? (i := 19) rfl)
theorem k_560 : (.lays "java/util/NoSuchElementException" "java/lang/Throwable" "stackTrace" "[Ljava/lang/StackTraceElement;" : Cond) ∈ AW := inAW_9 (List.mem_of_getElem? (i := 20) rfl)
theorem k_561 : (.lays "java/util/NoSuchElementException" "java/lang/Throwable" "suppressedExceptions" "Ljava/util/List;" : Cond) ∈ AW := inAW_9 (List.mem_of_getElem? (i := 21) rfl)
theorem k_562 : (.lays "java/util/NoSuchElementException" "java/lang/Throwable" "detailMessage" "Ljava/lang/String;" : Cond) ∈ AW := inAW_9 (List.mem_of_getElem? (i := 22) rfl)
theorem k_563 : (.lays "java/util/NoSuchElementException" "java/lang/Throwable" "backtrace" "Ljava/lang/Object;" : Cond) ∈ AW := inAW_9 (List.mem_of_getElem? (i := 23) rfl)
theorem k_564 : (.methodLink "TaleMachine" 80 ⟨"java/util/NoSuchElementException", "<init>", "(Ljava/lang/String;)V"⟩ : Cond) ∈ AW := inAW_9 (List.mem_of_getElem? (i := 24) rfl)
theorem k_565 : (.instanceMethod ⟨"java/util/NoSuchElementException", "<init>", "(Ljava/lang/String;)V"⟩ : Cond) ∈ AW := inAW_9 (List.mem_of_getElem? (i := 25) rfl)
theorem k_566 : (.code ⟨"java/util/NoSuchElementException", "<init>", "(Ljava/lang/String;)V"⟩ prog_20_method_4_code 2 none : Cond) ∈ AW := inAW_9 (List.mem_of_getElem? (i := 26) rfl)
theorem k_567 : (.methodLink "java/util/NoSuchElementException" 13 ⟨"java/lang/RuntimeException", "<init>", "(Ljava/lang/String;)V"⟩ : Cond) ∈ AW := inAW_9 (List.mem_of_getElem? (i := 27) rfl)
theorem k_568 : (.lays "java/util/NoSuchElementException" "java/lang/Throwable" "depth" "I" : Cond) ∈ AW := inAW_9 (List.mem_of_getElem? (i := 28) rfl)
theorem k_569 : (.methodLink "TaleMachine" 81 y_TM_isProperty : Cond) ∈ AW := inAW_9 (List.mem_of_getElem? (i := 29) rfl)
theorem k_570 : (.methodLink "TaleMachine" 88 y_World_setOwn : Cond) ∈ AW := inAW_9 (List.mem_of_getElem? (i := 30) rfl)
theorem k_571 : (.methodLink "TaleMachineLaw" 60 y_Law_begin : Cond) ∈ AW := inAW_9 (List.mem_of_getElem? (i := 31) rfl)
theorem k_572 : (.static y_Law_begin : Cond) ∈ AW := inAW_9 (List.mem_of_getElem? (i := 32) rfl)
theorem k_573 : (.codeWith y_Law_begin method_5_code 4 (some .int) [(0, 6, 9, 21), (0, 6, 12, 13), (0, 6, 15, 15)] : Cond) ∈ AW := inAW_9 (List.mem_of_getElem? (i := 33) rfl)
theorem k_574 : (.methodLink "TaleMachineLaw" 23 y_TM_begin : Cond) ∈ AW := inAW_9 (List.mem_of_getElem? (i := 34) rfl)
theorem k_575 : (.instanceMethod y_TM_begin : Cond) ∈ AW := inAW_9 (List.mem_of_getElem? (i := 35) rfl)
theorem k_576 : (.selects "TaleMachine" y_TM_begin y_TM_begin : Cond) ∈ AW := inAW_9 (List.mem_of_getElem? (i := 36) rfl)
theorem k_577 : (.code y_TM_begin prog_1_method_5_code 4 none : Cond) ∈ AW := inAW_9 (List.mem_of_getElem? (i := 37) rfl)
theorem k_578 : (.methodLink "TaleMachine" 92 y_World_holder : Cond) ∈ AW := inAW_9 (List.mem_of_getElem? (i := 38) rfl)
theorem k_579 : (.methodLink "TaleMachine" 96 y_World_ownKind : Cond) ∈ AW := inAW_9 (List.mem_of_getElem? (i := 39) rfl)
theorem k_580 : (.methodLink "TaleMachine" 99 y_World_ownInt : Cond) ∈ AW := inAW_9 (List.mem_of_getElem? (i := 40) rfl)
theorem k_581 : (.methodLink "TaleMachine" 102 y_Script_isMethod : Cond) ∈ AW := inAW_9 (List.mem_of_getElem? (i := 41) rfl)
theorem k_582 : (.methodLink "TaleMachine" 107 y_Teller_start : Cond) ∈ AW := inAW_9 (List.mem_of_getElem? (i := 42) rfl)
theorem k_583 : (.instanceMethod y_Teller_start : Cond) ∈ AW := inAW_9 (List.mem_of_getElem? (i := 43) rfl)
theorem k_584 : (.selects "TaleMachine$Teller" y_Teller_start y_Teller_start : Cond) ∈ AW := inAW_9 (List.mem_of_getElem? (i := 44) rfl)
theorem k_585 : (.code y_Teller_start prog_6_method_3_code 4 none : Cond) ∈ AW := inAW_9 (List.mem_of_getElem? (i := 45) rfl)
theorem k_586 : (.methodLink "TaleMachineLaw" 81 y_Law_stack : Cond) ∈ AW := inAW_9 (List.mem_of_getElem? (i := 46) rfl)
theorem k_587 : (.static y_Law_stack : Cond) ∈ AW := inAW_9 (List.mem_of_getElem? (i := 47) rfl)
theorem k_588 : (.codeWith y_Law_stack method_6_code 5 (some .int) [(0, 10, 13, 21)] : Cond) ∈ AW := inAW_9 (List.mem_of_getElem? (i := 48) rfl)
theorem k_589 : (.methodLink "TaleMachineLaw" 27 y_TM_stack : Cond) ∈ AW := inAW_9 (List.mem_of_getElem? (i := 49) rfl)
theorem k_590 : (.instanceMethod y_TM_stack : Cond) ∈ AW := inAW_9 (List.mem_of_getElem? (i := 50) rfl)
theorem k_591 : (.selects "TaleMachine" y_TM_stack y_TM_stack : Cond) ∈ AW := inAW_9 (List.mem_of_getElem? (i := 51) rfl)
theorem k_592 : (.code y_TM_stack prog_1_method_9_code 3 (some .int) : Cond) ∈ AW := inAW_9 (List.mem_of_getElem? (i := 52) rfl)
theorem k_593 : (.methodLink "TaleMachine" 138 y_TM_part : Cond) ∈ AW := inAW_9 (List.mem_of_getElem? (i := 53) rfl)
theorem k_594 : (.static y_TM_part : Cond) ∈ AW := inAW_9 (List.mem_of_getElem? (i := 54) rfl)
theorem k_595 : (.code y_TM_part prog_1_method_15_code 3 (some .int) : Cond) ∈ AW := inAW_9 (List.mem_of_getElem? (i := 55) rfl)
theorem k_596 : (.methodLink "TaleMachineLaw" 85 y_Law_show : Cond) ∈ AW := inAW_9 (List.mem_of_getElem? (i := 56) rfl)
theorem k_597 : (.static y_Law_show : Cond) ∈ AW := inAW_9 (List.mem_of_getElem? (i := 57) rfl)
theorem k_598 : (.codeWith y_Law_show method_7_code 4 (some .int) [(0, 9, 12, 21)] : Cond) ∈ AW := inAW_9 (List.mem_of_getElem? (i := 58) rfl)
theorem k_599 : (.methodLink "TaleMachineLaw" 31 y_TM_show : Cond) ∈ AW := inAW_9 (List.mem_of_getElem? (i := 59) rfl)
theorem k_600 : (.instanceMethod y_TM_show : Cond) ∈ AW := inAW_10 (List.mem_of_getElem? (i := 0) rfl)
theorem k_601 : (.selects "TaleMachine" y_TM_show y_TM_show : Cond) ∈ AW := inAW_10 (List.mem_of_getElem? (i := 1) rfl)
theorem k_602 : (.code y_TM_show prog_1_method_10_code 2 (some .int) : Cond) ∈ AW := inAW_10 (List.mem_of_getElem? (i := 2) rfl)
theorem k_603 : (.methodLink "TaleMachine" 147 y_Teller_top : Cond) ∈ AW := inAW_10 (List.mem_of_getElem? (i := 3) rfl)
theorem k_604 : (.methodLink "TaleMachine" 162 y_World_count : Cond) ∈ AW := inAW_10 (List.mem_of_getElem? (i := 4) rfl)
theorem k_605 : (.instanceMethod y_World_count : Cond) ∈ AW := inAW_10 (List.mem_of_getElem? (i := 5) rfl)
theorem k_606 : (.selects "TaleMachine$World" y_World_count y_World_count : Cond) ∈ AW := inAW_10 (List.mem_of_getElem? (i := 6) rfl)
theorem k_607 : (.code y_World_count prog_8_method_4_code 3 (some .int) : Cond) ∈ AW := inAW_10 (List.mem_of_getElem? (i := 7) rfl)
theorem k_608 : (.methodLink "TaleMachineLaw" 89 y_Law_said : Cond) ∈ AW := inAW_10 (List.mem_of_getElem? (i := 8) rfl)
theorem k_609 : (.static y_Law_said : Cond) ∈ AW := inAW_10 (List.mem_of_getElem? (i := 9) rfl)
theorem k_610 : (.codeWith y_Law_said method_8_code 5 (some .int) [(0, 10, 13, 21)] : Cond) ∈ AW := inAW_10 (List.mem_of_getElem? (i := 10) rfl)
theorem k_611 : (.methodLink "TaleMachineLaw" 35 y_TM_said : Cond) ∈ AW := inAW_10 (List.mem_of_getElem? (i := 11) rfl)
theorem k_612 : (.instanceMethod y_TM_said : Cond) ∈ AW := inAW_10 (List.mem_of_getElem? (i := 12) rfl)
theorem k_613 : (.selects "TaleMachine" y_TM_said y_TM_said : Cond) ∈ AW := inAW_10 (List.mem_of_getElem? (i := 13) rfl)
theorem k_614 : (.code y_TM_said prog_1_method_11_code 3 (some .int) : Cond) ∈ AW := inAW_10 (List.mem_of_getElem? (i := 14) rfl)
theorem k_615 : (.methodLink "TaleMachineLaw" 92 y_Law_has : Cond) ∈ AW := inAW_10 (List.mem_of_getElem? (i := 15) rfl)
theorem k_616 : (.static y_Law_has : Cond) ∈ AW := inAW_10 (List.mem_of_getElem? (i := 16) rfl)
theorem k_617 : (.codeWith y_Law_has method_9_code 6 (some .int) [(0, 12, 15, 21)] : Cond) ∈ AW := inAW_10 (List.mem_of_getElem? (i := 17) rfl)
theorem k_618 : (.methodLink "TaleMachineLaw" 38 y_TM_has : Cond) ∈ AW := inAW_10 (List.mem_of_getElem? (i := 18) rfl)
theorem k_619 : (.instanceMethod y_TM_has : Cond) ∈ AW := inAW_10 (List.mem_of_getElem? (i := 19) rfl)
theorem k_620 : (.selects "TaleMachine" y_TM_has y_TM_has : Cond) ∈ AW := inAW_10 (List.mem_of_getElem? (i := 20) rfl)
theorem k_621 : (.code y_TM_has prog_1_method_12_code 5 (some .int) : Cond) ∈ AW := inAW_10 (List.mem_of_getElem? (i := 21) rfl)
theorem k_622 : (.classLink "TaleMachineLaw" 42 "TaleMachineModel" : Cond) ∈ AW := inAW_10 (List.mem_of_getElem? (i := 22) rfl)
theorem k_623 : (.instantiable "TaleMachineModel" 31 : Cond) ∈ AW := inAW_10 (List.mem_of_getElem? (i := 23) rfl)
theorem k_624 : (.methodLink "TaleMachineLaw" 44 y_Model_init : Cond) ∈ AW := inAW_10 (List.mem_of_getElem? (i := 24) rfl)
theorem k_625 : (.instanceMethod y_Model_init : Cond) ∈ AW := inAW_10 (List.mem_of_getElem? (i := 25) rfl)
theorem k_626 : (.code y_Model_init prog_10_method_1_code 1 none : Cond) ∈ AW := inAW_10 (List.mem_of_getElem? (i := 26) rfl)
theorem k_627 : (.methodLink "TaleMachineModel" 1 objectInit : Cond) ∈ AW := inAW_10 (List.mem_of_getElem? (i := 27) rfl)
theorem k_628 : (.fieldLink "TaleMachineModel" 75 "TaleMachineModel" "code" "I" : Cond) ∈ AW := inAW_10 (List.mem_of_getElem? (i := 28) rfl)
theorem k_629 : (.fieldLink "TaleMachineModel" 7 "TaleMachineModel" "bytes" "[I" : Cond) ∈ AW := inAW_10 (List.mem_of_getElem? (i := 29) rfl)
theorem k_630 : (.fieldLink "TaleMachineModel" 104 "TaleMachineModel" "size" "I" : Cond) ∈ AW := inAW_10 (List.mem_of_getElem? (i := 30) rfl)
theorem k_631 : (.fieldLink "TaleMachineModel" 13 "TaleMachineModel" "w" "[I" : Cond) ∈ AW := inAW_10 (List.mem_of_getElem? (i := 31) rfl)
theorem k_632 : (.fieldLink "TaleMachineModel" 114 "TaleMachineModel" "fixed" "I" : Cond) ∈ AW := inAW_10 (List.mem_of_getElem? (i := 32) rfl)
theorem k_633 : (.fieldLink "TaleMachineModel" 153 "TaleMachineModel" "points" "I" : Cond) ∈ AW := inAW_10 (List.mem_of_getElem? (i := 33) rfl)
theorem k_634 : (.fieldLink "TaleMachineModel" 16 "TaleMachineModel" "saved" "[Z" : Cond) ∈ AW := inAW_10 (List.mem_of_getElem? (i := 34) rfl)
theorem k_635 : (.fieldLink "TaleMachineModel" 86 "TaleMachineModel" "length" "I" : Cond) ∈ AW := inAW_10 (List.mem_of_getElem? (i := 35) rfl)
theorem k_636 : (.fieldLink "TaleMachineModel" 20 "TaleMachineModel" "line" "[I" : Cond) ∈ AW := inAW_10 (List.mem_of_getElem? (i := 36) rfl)
theorem k_637 : (.fieldLink "TaleMachineModel" 23 "TaleMachineModel" "met" "[Z" : Cond) ∈ AW := inAW_10 (List.mem_of_getElem? (i := 37) rfl)
theorem k_638 : (.fieldLink "TaleMachineModel" 26 "TaleMachineModel" "waiting" "[I" : Cond) ∈ AW := inAW_10 (List.mem_of_getElem? (i := 38) rfl)
theorem k_639 : (.fieldLink "TaleMachineModel" 29 "TaleMachineModel" "nextParent" "[I" : Cond) ∈ AW := inAW_10 (List.mem_of_getElem? (i := 39) rfl)
theorem k_640 : (.fieldLink "TaleMachineModel" 130 "TaleMachineModel" "height" "I" : Cond) ∈ AW := inAW_10 (List.mem_of_getElem? (i := 40) rfl)
theorem k_641 : (.fieldLink "TaleMachineModel" 32 "TaleMachineModel" "kind" "[I" : Cond) ∈ AW := inAW_10 (List.mem_of_getElem? (i := 41) rfl)
theorem k_642 : (.fieldLink "TaleMachineModel" 35 "TaleMachineModel" "number" "[I" : Cond) ∈ AW := inAW_10 (List.mem_of_getElem? (i := 42) rfl)
theorem k_643 : (.fieldLink "TaleMachineModel" 127 "TaleMachineModel" "depth" "I" : Cond) ∈ AW := inAW_10 (List.mem_of_getElem? (i := 43) rfl)
theorem k_644 : (.fieldLink "TaleMachineModel" 38 "TaleMachineModel" "begin" "[I" : Cond) ∈ AW := inAW_10 (List.mem_of_getElem? (i := 44) rfl)
theorem k_645 : (.fieldLink "TaleMachineModel" 41 "TaleMachineModel" "table" "[I" : Cond) ∈ AW := inAW_10 (List.mem_of_getElem? (i := 45) rfl)
theorem k_646 : (.fieldLink "TaleMachineModel" 44 "TaleMachineModel" "handlers" "[I" : Cond) ∈ AW := inAW_10 (List.mem_of_getElem? (i := 46) rfl)
theorem k_647 : (.fieldLink "TaleMachineModel" 47 "TaleMachineModel" "base" "[I" : Cond) ∈ AW := inAW_10 (List.mem_of_getElem? (i := 47) rfl)
theorem k_648 : (.fieldLink "TaleMachineModel" 50 "TaleMachineModel" "locals" "[I" : Cond) ∈ AW := inAW_10 (List.mem_of_getElem? (i := 48) rfl)
theorem k_649 : (.fieldLink "TaleMachineModel" 53 "TaleMachineModel" "self" "[I" : Cond) ∈ AW := inAW_10 (List.mem_of_getElem? (i := 49) rfl)
theorem k_650 : (.fieldLink "TaleMachineModel" 56 "TaleMachineModel" "found" "[I" : Cond) ∈ AW := inAW_10 (List.mem_of_getElem? (i := 50) rfl)
theorem k_651 : (.fieldLink "TaleMachineModel" 59 "TaleMachineModel" "place" "[I" : Cond) ∈ AW := inAW_10 (List.mem_of_getElem? (i := 51) rfl)
theorem k_652 : (.fieldLink "TaleMachineModel" 62 "TaleMachineModel" "next" "[I" : Cond) ∈ AW := inAW_10 (List.mem_of_getElem? (i := 52) rfl)
theorem k_653 : (.fieldLink "TaleMachineModel" 144 "TaleMachineModel" "said" "I" : Cond) ∈ AW := inAW_10 (List.mem_of_getElem? (i := 53) rfl)
theorem k_654 : (.fieldLink "TaleMachineModel" 65 "TaleMachineModel" "saidKind" "[I" : Cond) ∈ AW := inAW_10 (List.mem_of_getElem? (i := 54) rfl)
theorem k_655 : (.fieldLink "TaleMachineModel" 68 "TaleMachineModel" "saidNumber" "[I" : Cond) ∈ AW := inAW_10 (List.mem_of_getElem? (i := 55) rfl)
theorem k_656 : (.fieldLink "TaleMachineModel" 147 "TaleMachineModel" "resultKind" "I" : Cond) ∈ AW := inAW_10 (List.mem_of_getElem? (i := 56) rfl)
theorem k_657 : (.fieldLink "TaleMachineModel" 150 "TaleMachineModel" "resultNumber" "I" : Cond) ∈ AW := inAW_10 (List.mem_of_getElem? (i := 57) rfl)
theorem k_658 : (.fieldLink "TaleMachineModel" 71 "TaleMachineModel" "ended" "I" : Cond) ∈ AW := inAW_10 (List.mem_of_getElem? (i := 58) rfl)
theorem k_659 : (.lays "TaleMachineModel" "TaleMachineModel" "code" "I" : Cond) ∈ AW := inAW_10 (List.mem_of_getElem? (i := 59) rfl)
theorem k_660 : (.laysFinal "TaleMachineModel" "TaleMachineModel" "bytes" "[I" : Cond) ∈ AW := inAW_11 (List.mem_of_getElem? (i := 0) rfl)
theorem k_661 : (.lays "TaleMachineModel" "TaleMachineModel" "size" "I" : Cond) ∈ AW := inAW_11 (List.mem_of_getElem? (i := 1) rfl)
theorem k_662 : (.laysFinal "TaleMachineModel" "TaleMachineModel" "w" "[I" : Cond) ∈ AW := inAW_11 (List.mem_of_getElem? (i := 2) rfl)
theorem k_663 : (.lays "TaleMachineModel" "TaleMachineModel" "fixed" "I" : Cond) ∈ AW := inAW_11 (List.mem_of_getElem? (i := 3) rfl)
theorem k_664 : (.lays "TaleMachineModel" "TaleMachineModel" "points" "I" : Cond) ∈ AW := inAW_11 (List.mem_of_getElem? (i := 4) rfl)
theorem k_665 : (.laysFinal "TaleMachineModel" "TaleMachineModel" "saved" "[Z" : Cond) ∈ AW := inAW_11 (List.mem_of_getElem? (i := 5) rfl)
theorem k_666 : (.lays "TaleMachineModel" "TaleMachineModel" "length" "I" : Cond) ∈ AW := inAW_11 (List.mem_of_getElem? (i := 6) rfl)
theorem k_667 : (.laysFinal "TaleMachineModel" "TaleMachineModel" "line" "[I" : Cond) ∈ AW := inAW_11 (List.mem_of_getElem? (i := 7) rfl)
theorem k_668 : (.laysFinal "TaleMachineModel" "TaleMachineModel" "met" "[Z" : Cond) ∈ AW := inAW_11 (List.mem_of_getElem? (i := 8) rfl)
theorem k_669 : (.laysFinal "TaleMachineModel" "TaleMachineModel" "waiting" "[I" : Cond) ∈ AW := inAW_11 (List.mem_of_getElem? (i := 9) rfl)
theorem k_670 : (.laysFinal "TaleMachineModel" "TaleMachineModel" "nextParent" "[I" : Cond) ∈ AW := inAW_11 (List.mem_of_getElem? (i := 10) rfl)
theorem k_671 : (.lays "TaleMachineModel" "TaleMachineModel" "height" "I" : Cond) ∈ AW := inAW_11 (List.mem_of_getElem? (i := 11) rfl)
theorem k_672 : (.laysFinal "TaleMachineModel" "TaleMachineModel" "kind" "[I" : Cond) ∈ AW := inAW_11 (List.mem_of_getElem? (i := 12) rfl)
theorem k_673 : (.laysFinal "TaleMachineModel" "TaleMachineModel" "number" "[I" : Cond) ∈ AW := inAW_11 (List.mem_of_getElem? (i := 13) rfl)
theorem k_674 : (.lays "TaleMachineModel" "TaleMachineModel" "depth" "I" : Cond) ∈ AW := inAW_11 (List.mem_of_getElem? (i := 14) rfl)
theorem k_675 : (.laysFinal "TaleMachineModel" "TaleMachineModel" "begin" "[I" : Cond) ∈ AW := inAW_11 (List.mem_of_getElem? (i := 15) rfl)
theorem k_676 : (.laysFinal "TaleMachineModel" "TaleMachineModel" "table" "[I" : Cond) ∈ AW := inAW_11 (List.mem_of_getElem? (i := 16) rfl)
theorem k_677 : (.laysFinal "TaleMachineModel" "TaleMachineModel" "handlers" "[I" : Cond) ∈ AW := inAW_11 (List.mem_of_getElem? (i := 17) rfl)
theorem k_678 : (.laysFinal "TaleMachineModel" "TaleMachineModel" "base" "[I" : Cond) ∈ AW := inAW_11 (List.mem_of_getElem? (i := 18) rfl)
theorem k_679 : (.laysFinal "TaleMachineModel" "TaleMachineModel" "locals" "[I" : Cond) ∈ AW := inAW_11 (List.mem_of_getElem? (i := 19) rfl)
theorem k_680 : (.laysFinal "TaleMachineModel" "TaleMachineModel" "self" "[I" : Cond) ∈ AW := inAW_11 (List.mem_of_getElem? (i := 20) rfl)
theorem k_681 : (.laysFinal "TaleMachineModel" "TaleMachineModel" "found" "[I" : Cond) ∈ AW := inAW_11 (List.mem_of_getElem? (i := 21) rfl)
theorem k_682 : (.laysFinal "TaleMachineModel" "TaleMachineModel" "place" "[I" : Cond) ∈ AW := inAW_11 (List.mem_of_getElem? (i := 22) rfl)
theorem k_683 : (.laysFinal "TaleMachineModel" "TaleMachineModel" "next" "[I" : Cond) ∈ AW := inAW_11 (List.mem_of_getElem? (i := 23) rfl)
theorem k_684 : (.lays "TaleMachineModel" "TaleMachineModel" "said" "I" : Cond) ∈ AW := inAW_11 (List.mem_of_getElem? (i := 24) rfl)
theorem k_685 : (.laysFinal "TaleMachineModel" "TaleMachineModel" "saidKind" "[I" : Cond) ∈ AW := inAW_11 (List.mem_of_getElem? (i := 25) rfl)
theorem k_686 : (.laysFinal "TaleMachineModel" "TaleMachineModel" "saidNumber" "[I" : Cond) ∈ AW := inAW_11 (List.mem_of_getElem? (i := 26) rfl)
theorem k_687 : (.lays "TaleMachineModel" "TaleMachineModel" "resultKind" "I" : Cond) ∈ AW := inAW_11 (List.mem_of_getElem? (i := 27) rfl)
theorem k_688 : (.lays "TaleMachineModel" "TaleMachineModel" "resultNumber" "I" : Cond) ∈ AW := inAW_11 (List.mem_of_getElem? (i := 28) rfl)
theorem k_689 : (.lays "TaleMachineModel" "TaleMachineModel" "ended" "I" : Cond) ∈ AW := inAW_11 (List.mem_of_getElem? (i := 29) rfl)
theorem k_690 : (.methodLink "TaleMachineLaw" 64 y_Model_thrown : Cond) ∈ AW := inAW_11 (List.mem_of_getElem? (i := 30) rfl)
theorem k_691 : (.instanceMethod y_Model_thrown : Cond) ∈ AW := inAW_11 (List.mem_of_getElem? (i := 31) rfl)
theorem k_692 : (.selects "TaleMachineModel" y_Model_thrown y_Model_thrown : Cond) ∈ AW := inAW_11 (List.mem_of_getElem? (i := 32) rfl)
theorem k_693 : (.code y_Model_thrown prog_10_method_2_code 1 (some .int) : Cond) ∈ AW := inAW_11 (List.mem_of_getElem? (i := 33) rfl)
theorem k_694 : (.methodLink "TaleMachineLaw" 49 y_Model_code : Cond) ∈ AW := inAW_11 (List.mem_of_getElem? (i := 34) rfl)
theorem k_695 : (.instanceMethod y_Model_code : Cond) ∈ AW := inAW_11 (List.mem_of_getElem? (i := 35) rfl)
theorem k_696 : (.selects "TaleMachineModel" y_Model_code y_Model_code : Cond) ∈ AW := inAW_11 (List.mem_of_getElem? (i := 36) rfl)
theorem k_697 : (.code y_Model_code prog_10_method_16_code 4 (some .boolean) : Cond) ∈ AW := inAW_11 (List.mem_of_getElem? (i := 37) rfl)
theorem k_698 : (.methodLink "TaleMachineModel" 78 y_Model_outside : Cond) ∈ AW := inAW_11 (List.mem_of_getElem? (i := 38) rfl)
theorem k_699 : (.static y_Model_outside : Cond) ∈ AW := inAW_11 (List.mem_of_getElem? (i := 39) rfl)
theorem k_700 : (.code y_Model_outside prog_10_method_4_code 3 (some .boolean) : Cond) ∈ AW := inAW_11 (List.mem_of_getElem? (i := 40) rfl)
theorem k_701 : (.methodLink "TaleMachineLaw" 55 y_Model_object : Cond) ∈ AW := inAW_11 (List.mem_of_getElem? (i := 41) rfl)
theorem k_702 : (.instanceMethod y_Model_object : Cond) ∈ AW := inAW_11 (List.mem_of_getElem? (i := 42) rfl)
theorem k_703 : (.selects "TaleMachineModel" y_Model_object y_Model_object : Cond) ∈ AW := inAW_11 (List.mem_of_getElem? (i := 43) rfl)
theorem k_704 : (.code y_Model_object prog_10_method_18_code 6 (some .int) : Cond) ∈ AW := inAW_11 (List.mem_of_getElem? (i := 44) rfl)
theorem k_705 : (.methodLink "TaleMachineModel" 111 y_Model_isParent : Cond) ∈ AW := inAW_11 (List.mem_of_getElem? (i := 45) rfl)
theorem k_706 : (.instanceMethod y_Model_isParent : Cond) ∈ AW := inAW_11 (List.mem_of_getElem? (i := 46) rfl)
theorem k_707 : (.code y_Model_isParent prog_10_method_17_code 2 (some .boolean) : Cond) ∈ AW := inAW_11 (List.mem_of_getElem? (i := 47) rfl)
theorem k_708 : (.methodLink "TaleMachineModel" 107 y_Model_isThere : Cond) ∈ AW := inAW_11 (List.mem_of_getElem? (i := 48) rfl)
theorem k_709 : (.instanceMethod y_Model_isThere : Cond) ∈ AW := inAW_11 (List.mem_of_getElem? (i := 49) rfl)
theorem k_710 : (.code y_Model_isThere prog_10_method_5_code 2 (some .boolean) : Cond) ∈ AW := inAW_11 (List.mem_of_getElem? (i := 50) rfl)
theorem k_711 : (.methodLink "TaleMachineModel" 117 y_Model_empty : Cond) ∈ AW := inAW_11 (List.mem_of_getElem? (i := 51) rfl)
theorem k_712 : (.instanceMethod y_Model_empty : Cond) ∈ AW := inAW_11 (List.mem_of_getElem? (i := 52) rfl)
theorem k_713 : (.code y_Model_empty prog_10_method_11_code 3 none : Cond) ∈ AW := inAW_11 (List.mem_of_getElem? (i := 53) rfl)
theorem k_714 : (.methodLink "TaleMachineModel" 82 y_Model_placeOf : Cond) ∈ AW := inAW_11 (List.mem_of_getElem? (i := 54) rfl)
theorem k_715 : (.instanceMethod y_Model_placeOf : Cond) ∈ AW := inAW_11 (List.mem_of_getElem? (i := 55) rfl)
theorem k_716 : (.code y_Model_placeOf prog_10_method_8_code 3 (some .int) : Cond) ∈ AW := inAW_11 (List.mem_of_getElem? (i := 56) rfl)
theorem k_717 : (.methodLink "TaleMachineLaw" 59 y_Model_property : Cond) ∈ AW := inAW_11 (List.mem_of_getElem? (i := 57) rfl)
theorem k_718 : (.instanceMethod y_Model_property : Cond) ∈ AW := inAW_11 (List.mem_of_getElem? (i := 58) rfl)
theorem k_719 : (.selects "TaleMachineModel" y_Model_property y_Model_property : Cond) ∈ AW := inAW_11 (List.mem_of_getElem? (i := 59) rfl)
theorem k_720 : (.code y_Model_property prog_10_method_19_code 6 none : Cond) ∈ AW := inAW_12 (List.mem_of_getElem? (i := 0) rfl)
theorem k_721 : (.methodLink "TaleMachineModel" 120 y_Model_give : Cond) ∈ AW := inAW_12 (List.mem_of_getElem? (i := 1) rfl)
theorem k_722 : (.instanceMethod y_Model_give : Cond) ∈ AW := inAW_12 (List.mem_of_getElem? (i := 2) rfl)
theorem k_723 : (.code y_Model_give prog_10_method_10_code 6 none : Cond) ∈ AW := inAW_12 (List.mem_of_getElem? (i := 3) rfl)
theorem k_724 : (.methodLink "TaleMachineLaw" 63 y_Model_begin : Cond) ∈ AW := inAW_12 (List.mem_of_getElem? (i := 4) rfl)
theorem k_725 : (.instanceMethod y_Model_begin : Cond) ∈ AW := inAW_12 (List.mem_of_getElem? (i := 5) rfl)
theorem k_726 : (.selects "TaleMachineModel" y_Model_begin y_Model_begin : Cond) ∈ AW := inAW_12 (List.mem_of_getElem? (i := 6) rfl)
theorem k_727 : (.code y_Model_begin prog_10_method_24_code 5 none : Cond) ∈ AW := inAW_12 (List.mem_of_getElem? (i := 7) rfl)
theorem k_728 : (.methodLink "TaleMachineModel" 137 y_Model_owner : Cond) ∈ AW := inAW_12 (List.mem_of_getElem? (i := 8) rfl)
theorem k_729 : (.instanceMethod y_Model_owner : Cond) ∈ AW := inAW_12 (List.mem_of_getElem? (i := 9) rfl)
theorem k_730 : (.code y_Model_owner prog_10_method_14_code 6 (some .int) : Cond) ∈ AW := inAW_12 (List.mem_of_getElem? (i := 10) rfl)
theorem k_731 : (.methodLink "TaleMachineModel" 96 y_Model_findLine : Cond) ∈ AW := inAW_12 (List.mem_of_getElem? (i := 11) rfl)
theorem k_732 : (.instanceMethod y_Model_findLine : Cond) ∈ AW := inAW_12 (List.mem_of_getElem? (i := 12) rfl)
theorem k_733 : (.code y_Model_findLine prog_10_method_13_code 6 none : Cond) ∈ AW := inAW_12 (List.mem_of_getElem? (i := 13) rfl)
theorem k_734 : (.methodLink "TaleMachineModel" 89 y_Model_parents : Cond) ∈ AW := inAW_12 (List.mem_of_getElem? (i := 14) rfl)
theorem k_735 : (.instanceMethod y_Model_parents : Cond) ∈ AW := inAW_12 (List.mem_of_getElem? (i := 15) rfl)
theorem k_736 : (.code y_Model_parents prog_10_method_6_code 2 (some .int) : Cond) ∈ AW := inAW_12 (List.mem_of_getElem? (i := 16) rfl)
theorem k_737 : (.methodLink "TaleMachineModel" 93 y_Model_parent : Cond) ∈ AW := inAW_12 (List.mem_of_getElem? (i := 17) rfl)
theorem k_738 : (.instanceMethod y_Model_parent : Cond) ∈ AW := inAW_12 (List.mem_of_getElem? (i := 18) rfl)
theorem k_739 : (.code y_Model_parent prog_10_method_7_code 3 (some .int) : Cond) ∈ AW := inAW_12 (List.mem_of_getElem? (i := 19) rfl)
theorem k_740 : (.methodLink "TaleMachineModel" 100 y_Model_hasOwn : Cond) ∈ AW := inAW_12 (List.mem_of_getElem? (i := 20) rfl)
theorem k_741 : (.instanceMethod y_Model_hasOwn : Cond) ∈ AW := inAW_12 (List.mem_of_getElem? (i := 21) rfl)
theorem k_742 : (.code y_Model_hasOwn prog_10_method_9_code 3 (some .boolean) : Cond) ∈ AW := inAW_12 (List.mem_of_getElem? (i := 22) rfl)
theorem k_743 : (.methodLink "TaleMachineModel" 141 y_Model_sound : Cond) ∈ AW := inAW_12 (List.mem_of_getElem? (i := 23) rfl)
theorem k_744 : (.instanceMethod y_Model_sound : Cond) ∈ AW := inAW_12 (List.mem_of_getElem? (i := 24) rfl)
theorem k_745 : (.code y_Model_sound prog_10_method_22_code 3 (some .boolean) : Cond) ∈ AW := inAW_12 (List.mem_of_getElem? (i := 25) rfl)
theorem k_746 : (.methodLink "TaleMachineModel" 124 y_Model_at : Cond) ∈ AW := inAW_12 (List.mem_of_getElem? (i := 26) rfl)
theorem k_747 : (.instanceMethod y_Model_at : Cond) ∈ AW := inAW_12 (List.mem_of_getElem? (i := 27) rfl)
theorem k_748 : (.code y_Model_at prog_10_method_20_code 2 (some .int) : Cond) ∈ AW := inAW_12 (List.mem_of_getElem? (i := 28) rfl)
theorem k_749 : (.methodLink "TaleMachineModel" 156 y_Model_enter : Cond) ∈ AW := inAW_12 (List.mem_of_getElem? (i := 29) rfl)
theorem k_750 : (.instanceMethod y_Model_enter : Cond) ∈ AW := inAW_12 (List.mem_of_getElem? (i := 30) rfl)
theorem k_751 : (.code y_Model_enter prog_10_method_23_code 6 none : Cond) ∈ AW := inAW_12 (List.mem_of_getElem? (i := 31) rfl)
theorem k_752 : (.methodLink "TaleMachineModel" 133 y_Model_push : Cond) ∈ AW := inAW_12 (List.mem_of_getElem? (i := 32) rfl)
theorem k_753 : (.instanceMethod y_Model_push : Cond) ∈ AW := inAW_12 (List.mem_of_getElem? (i := 33) rfl)
theorem k_754 : (.code y_Model_push prog_10_method_28_code 3 none : Cond) ∈ AW := inAW_12 (List.mem_of_getElem? (i := 34) rfl)
theorem k_755 : (.methodLink "TaleMachineLaw" 71 y_Model_run : Cond) ∈ AW := inAW_12 (List.mem_of_getElem? (i := 35) rfl)
theorem k_756 : (.instanceMethod y_Model_run : Cond) ∈ AW := inAW_12 (List.mem_of_getElem? (i := 36) rfl)
theorem k_757 : (.selects "TaleMachineModel" y_Model_run y_Model_run : Cond) ∈ AW := inAW_12 (List.mem_of_getElem? (i := 37) rfl)
theorem k_758 : (.code y_Model_run prog_10_method_26_code 3 (some .int) : Cond) ∈ AW := inAW_12 (List.mem_of_getElem? (i := 38) rfl)
theorem k_759 : (.methodLink "TaleMachineModel" 159 y_Model_one : Cond) ∈ AW := inAW_12 (List.mem_of_getElem? (i := 39) rfl)
theorem k_760 : (.instanceMethod y_Model_one : Cond) ∈ AW := inAW_12 (List.mem_of_getElem? (i := 40) rfl)
theorem k_761 : (.code y_Model_one prog_10_method_34_code 6 (some .boolean) : Cond) ∈ AW := inAW_12 (List.mem_of_getElem? (i := 41) rfl)
theorem k_762 : (.methodLink "TaleMachineModel" 166 y_Model_lengthOf : Cond) ∈ AW := inAW_12 (List.mem_of_getElem? (i := 42) rfl)
theorem k_763 : (.static y_Model_lengthOf : Cond) ∈ AW := inAW_12 (List.mem_of_getElem? (i := 43) rfl)
theorem k_764 : (.code y_Model_lengthOf prog_10_method_33_code 2 (some .int) : Cond) ∈ AW := inAW_12 (List.mem_of_getElem? (i := 44) rfl)
theorem k_765 : (.methodLink "TaleMachineModel" 169 y_Model_putting : Cond) ∈ AW := inAW_12 (List.mem_of_getElem? (i := 45) rfl)
theorem k_766 : (.instanceMethod y_Model_putting : Cond) ∈ AW := inAW_12 (List.mem_of_getElem? (i := 46) rfl)
theorem k_767 : (.code y_Model_putting prog_10_method_35_code 8 (some .boolean) : Cond) ∈ AW := inAW_12 (List.mem_of_getElem? (i := 47) rfl)
theorem k_768 : (.methodLink "TaleMachineModel" 181 y_Model_taken : Cond) ∈ AW := inAW_12 (List.mem_of_getElem? (i := 48) rfl)
theorem k_769 : (.instanceMethod y_Model_taken : Cond) ∈ AW := inAW_12 (List.mem_of_getElem? (i := 49) rfl)
theorem k_770 : (.code y_Model_taken prog_10_method_30_code 1 (some .int) : Cond) ∈ AW := inAW_12 (List.mem_of_getElem? (i := 50) rfl)
theorem k_771 : (.methodLink "TaleMachineModel" 185 y_Model_signed : Cond) ∈ AW := inAW_12 (List.mem_of_getElem? (i := 51) rfl)
theorem k_772 : (.instanceMethod y_Model_signed : Cond) ∈ AW := inAW_12 (List.mem_of_getElem? (i := 52) rfl)
theorem k_773 : (.code y_Model_signed prog_10_method_36_code 2 (some .int) : Cond) ∈ AW := inAW_12 (List.mem_of_getElem? (i := 53) rfl)
theorem k_774 : (.methodLink "TaleMachineModel" 188 y_Model_two : Cond) ∈ AW := inAW_12 (List.mem_of_getElem? (i := 54) rfl)
theorem k_775 : (.instanceMethod y_Model_two : Cond) ∈ AW := inAW_12 (List.mem_of_getElem? (i := 55) rfl)
theorem k_776 : (.code y_Model_two prog_10_method_21_code 2 (some .int) : Cond) ∈ AW := inAW_12 (List.mem_of_getElem? (i := 56) rfl)
theorem k_777 : (.methodLink "TaleMachineModel" 172 y_Model_reckoning : Cond) ∈ AW := inAW_12 (List.mem_of_getElem? (i := 57) rfl)
theorem k_778 : (.instanceMethod y_Model_reckoning : Cond) ∈ AW := inAW_12 (List.mem_of_getElem? (i := 58) rfl)
theorem k_779 : (.code y_Model_reckoning prog_10_method_37_code 7 (some .boolean) : Cond) ∈ AW := inAW_12 (List.mem_of_getElem? (i := 59) rfl)
theorem k_780 : (.methodLink "TaleMachineModel" 191 y_Model_isFalse : Cond) ∈ AW := inAW_13 (List.mem_of_getElem? (i := 0) rfl)
theorem k_781 : (.instanceMethod y_Model_isFalse : Cond) ∈ AW := inAW_13 (List.mem_of_getElem? (i := 1) rfl)
theorem k_782 : (.code y_Model_isFalse prog_10_method_31_code 2 (some .boolean) : Cond) ∈ AW := inAW_13 (List.mem_of_getElem? (i := 2) rfl)
theorem k_783 : (.methodLink "TaleMachineModel" 194 y_Model_truth : Cond) ∈ AW := inAW_13 (List.mem_of_getElem? (i := 3) rfl)
theorem k_784 : (.instanceMethod y_Model_truth : Cond) ∈ AW := inAW_13 (List.mem_of_getElem? (i := 4) rfl)
theorem k_785 : (.code y_Model_truth prog_10_method_29_code 2 (some .boolean) : Cond) ∈ AW := inAW_13 (List.mem_of_getElem? (i := 5) rfl)
theorem k_786 : (.methodLink "TaleMachineModel" 198 y_Model_toss : Cond) ∈ AW := inAW_13 (List.mem_of_getElem? (i := 6) rfl)
theorem k_787 : (.instanceMethod y_Model_toss : Cond) ∈ AW := inAW_13 (List.mem_of_getElem? (i := 7) rfl)
theorem k_788 : (.code y_Model_toss prog_10_method_44_code 4 (some .boolean) : Cond) ∈ AW := inAW_13 (List.mem_of_getElem? (i := 8) rfl)
theorem k_789 : (.methodLink "TaleMachineModel" 220 y_Model_handler : Cond) ∈ AW := inAW_13 (List.mem_of_getElem? (i := 9) rfl)
theorem k_790 : (.instanceMethod y_Model_handler : Cond) ∈ AW := inAW_13 (List.mem_of_getElem? (i := 10) rfl)
theorem k_791 : (.code y_Model_handler prog_10_method_43_code 5 (some .int) : Cond) ∈ AW := inAW_13 (List.mem_of_getElem? (i := 11) rfl)
theorem k_792 : (.methodLink "TaleMachineModel" 217 y_Model_belongs : Cond) ∈ AW := inAW_13 (List.mem_of_getElem? (i := 12) rfl)
theorem k_793 : (.instanceMethod y_Model_belongs : Cond) ∈ AW := inAW_13 (List.mem_of_getElem? (i := 13) rfl)
theorem k_794 : (.code y_Model_belongs prog_10_method_15_code 7 (some .boolean) : Cond) ∈ AW := inAW_13 (List.mem_of_getElem? (i := 14) rfl)
theorem k_795 : (.methodLink "TaleMachineModel" 163 y_Model_over : Cond) ∈ AW := inAW_13 (List.mem_of_getElem? (i := 15) rfl)
theorem k_796 : (.instanceMethod y_Model_over : Cond) ∈ AW := inAW_13 (List.mem_of_getElem? (i := 16) rfl)
theorem k_797 : (.code y_Model_over prog_10_method_25_code 2 (some .int) : Cond) ∈ AW := inAW_13 (List.mem_of_getElem? (i := 17) rfl)
theorem k_798 : (.methodLink "TaleMachineModel" 175 y_Model_going : Cond) ∈ AW := inAW_13 (List.mem_of_getElem? (i := 18) rfl)
theorem k_799 : (.instanceMethod y_Model_going : Cond) ∈ AW := inAW_13 (List.mem_of_getElem? (i := 19) rfl)
theorem k_800 : (.code y_Model_going prog_10_method_38_code 5 (some .boolean) : Cond) ∈ AW := inAW_13 (List.mem_of_getElem? (i := 20) rfl)
theorem k_801 : (.methodLink "TaleMachineModel" 201 y_Model_isObject : Cond) ∈ AW := inAW_13 (List.mem_of_getElem? (i := 21) rfl)
theorem k_802 : (.instanceMethod y_Model_isObject : Cond) ∈ AW := inAW_13 (List.mem_of_getElem? (i := 22) rfl)
theorem k_803 : (.code y_Model_isObject prog_10_method_32_code 2 (some .boolean) : Cond) ∈ AW := inAW_13 (List.mem_of_getElem? (i := 23) rfl)
theorem k_804 : (.methodLink "TaleMachineModel" 204 y_Model_ask : Cond) ∈ AW := inAW_13 (List.mem_of_getElem? (i := 24) rfl)
theorem k_805 : (.instanceMethod y_Model_ask : Cond) ∈ AW := inAW_13 (List.mem_of_getElem? (i := 25) rfl)
theorem k_806 : (.code y_Model_ask prog_10_method_41_code 7 (some .boolean) : Cond) ∈ AW := inAW_13 (List.mem_of_getElem? (i := 26) rfl)
theorem k_807 : (.methodLink "TaleMachineModel" 211 y_Model_call : Cond) ∈ AW := inAW_13 (List.mem_of_getElem? (i := 27) rfl)
theorem k_808 : (.instanceMethod y_Model_call : Cond) ∈ AW := inAW_13 (List.mem_of_getElem? (i := 28) rfl)
theorem k_809 : (.code y_Model_call prog_10_method_40_code 6 (some .boolean) : Cond) ∈ AW := inAW_13 (List.mem_of_getElem? (i := 29) rfl)
theorem k_810 : (.methodLink "TaleMachineModel" 208 y_Model_assign : Cond) ∈ AW := inAW_13 (List.mem_of_getElem? (i := 30) rfl)
theorem k_811 : (.instanceMethod y_Model_assign : Cond) ∈ AW := inAW_13 (List.mem_of_getElem? (i := 31) rfl)
theorem k_812 : (.code y_Model_assign prog_10_method_39_code 2 (some .boolean) : Cond) ∈ AW := inAW_13 (List.mem_of_getElem? (i := 32) rfl)
theorem k_813 : (.methodLink "TaleMachineModel" 214 y_Model_end : Cond) ∈ AW := inAW_13 (List.mem_of_getElem? (i := 33) rfl)
theorem k_814 : (.instanceMethod y_Model_end : Cond) ∈ AW := inAW_13 (List.mem_of_getElem? (i := 34) rfl)
theorem k_815 : (.code y_Model_end prog_10_method_42_code 4 (some .boolean) : Cond) ∈ AW := inAW_13 (List.mem_of_getElem? (i := 35) rfl)
theorem k_816 : (.methodLink "TaleMachineModel" 178 y_Model_world : Cond) ∈ AW := inAW_13 (List.mem_of_getElem? (i := 36) rfl)
theorem k_817 : (.instanceMethod y_Model_world : Cond) ∈ AW := inAW_13 (List.mem_of_getElem? (i := 37) rfl)
theorem k_818 : (.code y_Model_world prog_10_method_45_code 7 (some .boolean) : Cond) ∈ AW := inAW_13 (List.mem_of_getElem? (i := 38) rfl)
theorem k_819 : (.methodLink "TaleMachineModel" 223 y_Model_make : Cond) ∈ AW := inAW_13 (List.mem_of_getElem? (i := 39) rfl)
theorem k_820 : (.instanceMethod y_Model_make : Cond) ∈ AW := inAW_13 (List.mem_of_getElem? (i := 40) rfl)
theorem k_821 : (.code y_Model_make prog_10_method_46_code 3 (some .boolean) : Cond) ∈ AW := inAW_13 (List.mem_of_getElem? (i := 41) rfl)
theorem k_822 : (.methodLink "TaleMachineModel" 226 y_Model_point : Cond) ∈ AW := inAW_13 (List.mem_of_getElem? (i := 42) rfl)
theorem k_823 : (.instanceMethod y_Model_point : Cond) ∈ AW := inAW_13 (List.mem_of_getElem? (i := 43) rfl)
theorem k_824 : (.code y_Model_point prog_10_method_47_code 1 (some .boolean) : Cond) ∈ AW := inAW_13 (List.mem_of_getElem? (i := 44) rfl)
theorem k_825 : (.methodLink "TaleMachineModel" 229 y_Model_copy : Cond) ∈ AW := inAW_13 (List.mem_of_getElem? (i := 45) rfl)
theorem k_826 : (.instanceMethod y_Model_copy : Cond) ∈ AW := inAW_13 (List.mem_of_getElem? (i := 46) rfl)
theorem k_827 : (.code y_Model_copy prog_10_method_12_code 4 none : Cond) ∈ AW := inAW_13 (List.mem_of_getElem? (i := 47) rfl)
theorem k_828 : (.methodLink "TaleMachineLaw" 76 y_Model_stop : Cond) ∈ AW := inAW_13 (List.mem_of_getElem? (i := 48) rfl)
theorem k_829 : (.instanceMethod y_Model_stop : Cond) ∈ AW := inAW_13 (List.mem_of_getElem? (i := 49) rfl)
theorem k_830 : (.selects "TaleMachineModel" y_Model_stop y_Model_stop : Cond) ∈ AW := inAW_13 (List.mem_of_getElem? (i := 50) rfl)
theorem k_831 : (.code y_Model_stop prog_10_method_27_code 1 (some .boolean) : Cond) ∈ AW := inAW_13 (List.mem_of_getElem? (i := 51) rfl)
theorem k_832 : (.methodLink "TaleMachineLaw" 80 y_Model_collect : Cond) ∈ AW := inAW_13 (List.mem_of_getElem? (i := 52) rfl)
theorem k_833 : (.instanceMethod y_Model_collect : Cond) ∈ AW := inAW_13 (List.mem_of_getElem? (i := 53) rfl)
theorem k_834 : (.selects "TaleMachineModel" y_Model_collect y_Model_collect : Cond) ∈ AW := inAW_13 (List.mem_of_getElem? (i := 54) rfl)
theorem k_835 : (.code y_Model_collect prog_10_method_50_code 6 (some .int) : Cond) ∈ AW := inAW_13 (List.mem_of_getElem? (i := 55) rfl)
theorem k_836 : (.methodLink "TaleMachineModel" 232 y_Model_mark : Cond) ∈ AW := inAW_13 (List.mem_of_getElem? (i := 56) rfl)
theorem k_837 : (.instanceMethod y_Model_mark : Cond) ∈ AW := inAW_13 (List.mem_of_getElem? (i := 57) rfl)
theorem k_838 : (.code y_Model_mark prog_10_method_48_code 4 (some .int) : Cond) ∈ AW := inAW_13 (List.mem_of_getElem? (i := 58) rfl)
theorem k_839 : (.methodLink "TaleMachineModel" 235 y_Model_spread : Cond) ∈ AW := inAW_13 (List.mem_of_getElem? (i := 59) rfl)
theorem k_840 : (.instanceMethod y_Model_spread : Cond) ∈ AW := inAW_14 (List.mem_of_getElem? (i := 0) rfl)
theorem k_841 : (.code y_Model_spread prog_10_method_49_code 6 (some .int) : Cond) ∈ AW := inAW_14 (List.mem_of_getElem? (i := 1) rfl)
theorem k_842 : (.methodLink "TaleMachineLaw" 84 y_Model_stack : Cond) ∈ AW := inAW_14 (List.mem_of_getElem? (i := 2) rfl)
theorem k_843 : (.instanceMethod y_Model_stack : Cond) ∈ AW := inAW_14 (List.mem_of_getElem? (i := 3) rfl)
theorem k_844 : (.selects "TaleMachineModel" y_Model_stack y_Model_stack : Cond) ∈ AW := inAW_14 (List.mem_of_getElem? (i := 4) rfl)
theorem k_845 : (.code y_Model_stack prog_10_method_51_code 3 (some .int) : Cond) ∈ AW := inAW_14 (List.mem_of_getElem? (i := 5) rfl)
theorem k_846 : (.methodLink "TaleMachineModel" 238 y_Model_refuse : Cond) ∈ AW := inAW_14 (List.mem_of_getElem? (i := 6) rfl)
theorem k_847 : (.instanceMethod y_Model_refuse : Cond) ∈ AW := inAW_14 (List.mem_of_getElem? (i := 7) rfl)
theorem k_848 : (.code y_Model_refuse prog_10_method_3_code 2 (some .int) : Cond) ∈ AW := inAW_14 (List.mem_of_getElem? (i := 8) rfl)
theorem k_849 : (.methodLink "TaleMachineLaw" 88 y_Model_show : Cond) ∈ AW := inAW_14 (List.mem_of_getElem? (i := 9) rfl)
theorem k_850 : (.instanceMethod y_Model_show : Cond) ∈ AW := inAW_14 (List.mem_of_getElem? (i := 10) rfl)
theorem k_851 : (.selects "TaleMachineModel" y_Model_show y_Model_show : Cond) ∈ AW := inAW_14 (List.mem_of_getElem? (i := 11) rfl)
theorem k_852 : (.code y_Model_show prog_10_method_52_code 4 (some .int) : Cond) ∈ AW := inAW_14 (List.mem_of_getElem? (i := 12) rfl)
theorem k_853 : (.methodLink "TaleMachineLaw" 91 y_Model_said : Cond) ∈ AW := inAW_14 (List.mem_of_getElem? (i := 13) rfl)
theorem k_854 : (.instanceMethod y_Model_said : Cond) ∈ AW := inAW_14 (List.mem_of_getElem? (i := 14) rfl)
theorem k_855 : (.selects "TaleMachineModel" y_Model_said y_Model_said : Cond) ∈ AW := inAW_14 (List.mem_of_getElem? (i := 15) rfl)
theorem k_856 : (.code y_Model_said prog_10_method_53_code 3 (some .int) : Cond) ∈ AW := inAW_14 (List.mem_of_getElem? (i := 16) rfl)
theorem k_857 : (.methodLink "TaleMachineLaw" 94 y_Model_has : Cond) ∈ AW := inAW_14 (List.mem_of_getElem? (i := 17) rfl)
theorem k_858 : (.instanceMethod y_Model_has : Cond) ∈ AW := inAW_14 (List.mem_of_getElem? (i := 18) rfl)
theorem k_859 : (.selects "TaleMachineModel" y_Model_has y_Model_has : Cond) ∈ AW := inAW_14 (List.mem_of_getElem? (i := 19) rfl)
theorem k_860 : (.code y_Model_has prog_10_method_54_code 5 (some .int) : Cond) ∈ AW := inAW_14 (List.mem_of_getElem? (i := 20) rfl)
theorem k_861 : (.methodLink "TaleMachineLaw" 98 y_Model_isOf : Cond) ∈ AW := inAW_14 (List.mem_of_getElem? (i := 21) rfl)
theorem k_862 : (.instanceMethod y_Model_isOf : Cond) ∈ AW := inAW_14 (List.mem_of_getElem? (i := 22) rfl)
theorem k_863 : (.selects "TaleMachineModel" y_Model_isOf y_Model_isOf : Cond) ∈ AW := inAW_14 (List.mem_of_getElem? (i := 23) rfl)
theorem k_864 : (.code y_Model_isOf prog_10_method_55_code 3 (some .boolean) : Cond) ∈ AW := inAW_14 (List.mem_of_getElem? (i := 24) rfl)
theorem k_865 : (.arrayClass .long : Cond) ∈ AW := inAW_14 (List.mem_of_getElem? (i := 25) rfl)
theorem k_866 : (.selects "TaleMachine$Teller" y_Teller_goOn y_Teller_goOn : Cond) ∈ AW := inAW_14 (List.mem_of_getElem? (i := 26) rfl)
theorem k_867 : (.selects "TaleMachine$Teller" y_Teller_put y_Teller_put : Cond) ∈ AW := inAW_14 (List.mem_of_getElem? (i := 27) rfl)
theorem k_868 : (.selects "TaleMachine$Teller" y_Teller_isLocal y_Teller_isLocal : Cond) ∈ AW := inAW_14 (List.mem_of_getElem? (i := 28) rfl)
theorem k_869 : (.selects "TaleMachine$Teller" y_Teller_putCopy y_Teller_putCopy : Cond) ∈ AW := inAW_14 (List.mem_of_getElem? (i := 29) rfl)
theorem k_870 : (.selects "TaleMachine$Teller" y_Teller_takeIntoLocal y_Teller_takeIntoLocal : Cond) ∈ AW := inAW_14 (List.mem_of_getElem? (i := 30) rfl)
theorem k_871 : (.selects "TaleMachine$Teller" y_Teller_canTake y_Teller_canTake : Cond) ∈ AW := inAW_14 (List.mem_of_getElem? (i := 31) rfl)
theorem k_872 : (.selects "TaleMachine$Teller" y_Teller_topKind y_Teller_topKind : Cond) ∈ AW := inAW_14 (List.mem_of_getElem? (i := 32) rfl)
theorem k_873 : (.selects "TaleMachine$Teller" y_Teller_topInt y_Teller_topInt : Cond) ∈ AW := inAW_14 (List.mem_of_getElem? (i := 33) rfl)
theorem k_874 : (.selects "TaleMachine$Teller" y_Teller_take y_Teller_take : Cond) ∈ AW := inAW_14 (List.mem_of_getElem? (i := 34) rfl)
theorem k_875 : (.selects "TaleMachine$Teller" y_Teller_calculate y_Teller_calculate : Cond) ∈ AW := inAW_14 (List.mem_of_getElem? (i := 35) rfl)
theorem k_876 : (.selects "TaleMachine$Teller" y_Teller_raise y_Teller_raise : Cond) ∈ AW := inAW_14 (List.mem_of_getElem? (i := 36) rfl)
theorem k_877 : (.selects "TaleMachine$Teller" y_Teller_goal y_Teller_goal : Cond) ∈ AW := inAW_14 (List.mem_of_getElem? (i := 37) rfl)
theorem k_878 : (.selects "TaleMachine$Teller" y_Teller_finish y_Teller_finish : Cond) ∈ AW := inAW_14 (List.mem_of_getElem? (i := 38) rfl)
theorem k_879 : (.selects "TaleMachine$Teller" y_Teller_putTruthFor y_Teller_putTruthFor : Cond) ∈ AW := inAW_14 (List.mem_of_getElem? (i := 39) rfl)
theorem k_880 : (.selects "TaleMachine$Teller" y_Teller_like y_Teller_like : Cond) ∈ AW := inAW_14 (List.mem_of_getElem? (i := 40) rfl)
theorem k_881 : (.selects "TaleMachine$Teller" y_Teller_isFalse y_Teller_isFalse : Cond) ∈ AW := inAW_14 (List.mem_of_getElem? (i := 41) rfl)
theorem k_882 : (.selects "TaleMachine$Teller" y_Teller_jump y_Teller_jump : Cond) ∈ AW := inAW_14 (List.mem_of_getElem? (i := 42) rfl)
theorem k_883 : (.selects "TaleMachine$Teller" y_Teller_jumpIfFalse y_Teller_jumpIfFalse : Cond) ∈ AW := inAW_14 (List.mem_of_getElem? (i := 43) rfl)
theorem k_884 : (.selects "TaleMachine$Teller" y_Teller_ask y_Teller_ask : Cond) ∈ AW := inAW_14 (List.mem_of_getElem? (i := 44) rfl)
theorem k_885 : (.selects "TaleMachine$Teller" y_Teller_isObjectOnTop y_Teller_isObjectOnTop : Cond) ∈ AW := inAW_14 (List.mem_of_getElem? (i := 45) rfl)
theorem k_886 : (.selects "TaleMachine$World" y_World_holderFrom y_World_holderFrom : Cond) ∈ AW := inAW_14 (List.mem_of_getElem? (i := 46) rfl)
theorem k_887 : (.selects "TaleMachine$Teller" y_Teller_answer y_Teller_answer : Cond) ∈ AW := inAW_14 (List.mem_of_getElem? (i := 47) rfl)
theorem k_888 : (.selects "TaleMachine$Teller" y_Teller_enter y_Teller_enter : Cond) ∈ AW := inAW_14 (List.mem_of_getElem? (i := 48) rfl)
theorem k_889 : (.selects "TaleMachine$Teller" y_Teller_setOwn y_Teller_setOwn : Cond) ∈ AW := inAW_14 (List.mem_of_getElem? (i := 49) rfl)
theorem k_890 : (.selects "TaleMachine$Teller" y_Teller_inherited y_Teller_inherited : Cond) ∈ AW := inAW_14 (List.mem_of_getElem? (i := 50) rfl)
theorem k_891 : (.selects "TaleMachine$Teller" y_Teller_end y_Teller_end : Cond) ∈ AW := inAW_14 (List.mem_of_getElem? (i := 51) rfl)
theorem k_892 : (.selects "TaleMachine$Teller" y_Teller_make y_Teller_make : Cond) ∈ AW := inAW_14 (List.mem_of_getElem? (i := 52) rfl)
theorem k_893 : (.selects "TaleMachine$World" y_World_clearOwn y_World_clearOwn : Cond) ∈ AW := inAW_14 (List.mem_of_getElem? (i := 53) rfl)
theorem k_894 : (.selects "TaleMachine$Teller" y_Teller_testOf y_Teller_testOf : Cond) ∈ AW := inAW_14 (List.mem_of_getElem? (i := 54) rfl)
theorem k_895 : (.selects "TaleMachine$Teller" y_Teller_setPoint y_Teller_setPoint : Cond) ∈ AW := inAW_14 (List.mem_of_getElem? (i := 55) rfl)
theorem k_896 : (.selects "TaleMachine$History" y_History_dropOldest y_History_dropOldest : Cond) ∈ AW := inAW_14 (List.mem_of_getElem? (i := 56) rfl)
theorem k_897 : (.selects "TaleMachine$Teller" y_Teller_save y_Teller_save : Cond) ∈ AW := inAW_14 (List.mem_of_getElem? (i := 57) rfl)
theorem k_898 : (.selects "TaleMachine$Teller" y_Teller_bringBack y_Teller_bringBack : Cond) ∈ AW := inAW_14 (List.mem_of_getElem? (i := 58) rfl)
theorem k_899 : (.selects "TaleMachine$World" y_World_reachFrom y_World_reachFrom : Cond) ∈ AW := inAW_14 (List.mem_of_getElem? (i := 59) rfl)
theorem k_900 : (.selects "java/lang/Throwable" ⟨"java/lang/Throwable", "fillInStackTrace", "(I)Ljava/lang/Throwable;"⟩ ⟨"java/lang/Throwable", "fillInStackTrace", "(I)Ljava/lang/Throwable;"⟩ : Cond) ∈ AW := inAW_15 (List.mem_of_getElem? (i := 0) rfl)
theorem k_901 : (.selects "TaleMachine$World" y_World_gather y_World_gather : Cond) ∈ AW := inAW_15 (List.mem_of_getElem? (i := 1) rfl)
theorem k_902 : (.selects "TaleMachineModel" y_Model_isParent y_Model_isParent : Cond) ∈ AW := inAW_15 (List.mem_of_getElem? (i := 2) rfl)
theorem k_903 : (.selects "TaleMachineModel" y_Model_isThere y_Model_isThere : Cond) ∈ AW := inAW_15 (List.mem_of_getElem? (i := 3) rfl)
theorem k_904 : (.selects "TaleMachineModel" y_Model_empty y_Model_empty : Cond) ∈ AW := inAW_15 (List.mem_of_getElem? (i := 4) rfl)
theorem k_905 : (.selects "TaleMachineModel" y_Model_placeOf y_Model_placeOf : Cond) ∈ AW := inAW_15 (List.mem_of_getElem? (i := 5) rfl)
theorem k_906 : (.selects "TaleMachineModel" y_Model_give y_Model_give : Cond) ∈ AW := inAW_15 (List.mem_of_getElem? (i := 6) rfl)
theorem k_907 : (.selects "TaleMachineModel" y_Model_owner y_Model_owner : Cond) ∈ AW := inAW_15 (List.mem_of_getElem? (i := 7) rfl)
theorem k_908 : (.selects "TaleMachineModel" y_Model_findLine y_Model_findLine : Cond) ∈ AW := inAW_15 (List.mem_of_getElem? (i := 8) rfl)
theorem k_909 : (.selects "TaleMachineModel" y_Model_parents y_Model_parents : Cond) ∈ AW := inAW_15 (List.mem_of_getElem? (i := 9) rfl)
theorem k_910 : (.selects "TaleMachineModel" y_Model_parent y_Model_parent : Cond) ∈ AW := inAW_15 (List.mem_of_getElem? (i := 10) rfl)
theorem k_911 : (.selects "TaleMachineModel" y_Model_hasOwn y_Model_hasOwn : Cond) ∈ AW := inAW_15 (List.mem_of_getElem? (i := 11) rfl)
theorem k_912 : (.selects "TaleMachineModel" y_Model_sound y_Model_sound : Cond) ∈ AW := inAW_15 (List.mem_of_getElem? (i := 12) rfl)
theorem k_913 : (.selects "TaleMachineModel" y_Model_at y_Model_at : Cond) ∈ AW := inAW_15 (List.mem_of_getElem? (i := 13) rfl)
theorem k_914 : (.selects "TaleMachineModel" y_Model_enter y_Model_enter : Cond) ∈ AW := inAW_15 (List.mem_of_getElem? (i := 14) rfl)
theorem k_915 : (.selects "TaleMachineModel" y_Model_push y_Model_push : Cond) ∈ AW := inAW_15 (List.mem_of_getElem? (i := 15) rfl)
theorem k_916 : (.selects "TaleMachineModel" y_Model_one y_Model_one : Cond) ∈ AW := inAW_15 (List.mem_of_getElem? (i := 16) rfl)
theorem k_917 : (.selects "TaleMachineModel" y_Model_putting y_Model_putting : Cond) ∈ AW := inAW_15 (List.mem_of_getElem? (i := 17) rfl)
theorem k_918 : (.selects "TaleMachineModel" y_Model_taken y_Model_taken : Cond) ∈ AW := inAW_15 (List.mem_of_getElem? (i := 18) rfl)
theorem k_919 : (.selects "TaleMachineModel" y_Model_signed y_Model_signed : Cond) ∈ AW := inAW_15 (List.mem_of_getElem? (i := 19) rfl)
theorem k_920 : (.selects "TaleMachineModel" y_Model_two y_Model_two : Cond) ∈ AW := inAW_15 (List.mem_of_getElem? (i := 20) rfl)
theorem k_921 : (.selects "TaleMachineModel" y_Model_reckoning y_Model_reckoning : Cond) ∈ AW := inAW_15 (List.mem_of_getElem? (i := 21) rfl)
theorem k_922 : (.selects "TaleMachineModel" y_Model_isFalse y_Model_isFalse : Cond) ∈ AW := inAW_15 (List.mem_of_getElem? (i := 22) rfl)
theorem k_923 : (.selects "TaleMachineModel" y_Model_truth y_Model_truth : Cond) ∈ AW := inAW_15 (List.mem_of_getElem? (i := 23) rfl)
theorem k_924 : (.selects "TaleMachineModel" y_Model_toss y_Model_toss : Cond) ∈ AW := inAW_15 (List.mem_of_getElem? (i := 24) rfl)
theorem k_925 : (.selects "TaleMachineModel" y_Model_handler y_Model_handler : Cond) ∈ AW := inAW_15 (List.mem_of_getElem? (i := 25) rfl)
theorem k_926 : (.selects "TaleMachineModel" y_Model_belongs y_Model_belongs : Cond) ∈ AW := inAW_15 (List.mem_of_getElem? (i := 26) rfl)
theorem k_927 : (.selects "TaleMachineModel" y_Model_over y_Model_over : Cond) ∈ AW := inAW_15 (List.mem_of_getElem? (i := 27) rfl)
theorem k_928 : (.selects "TaleMachineModel" y_Model_going y_Model_going : Cond) ∈ AW := inAW_15 (List.mem_of_getElem? (i := 28) rfl)
theorem k_929 : (.selects "TaleMachineModel" y_Model_isObject y_Model_isObject : Cond) ∈ AW := inAW_15 (List.mem_of_getElem? (i := 29) rfl)
theorem k_930 : (.selects "TaleMachineModel" y_Model_ask y_Model_ask : Cond) ∈ AW := inAW_15 (List.mem_of_getElem? (i := 30) rfl)
theorem k_931 : (.selects "TaleMachineModel" y_Model_call y_Model_call : Cond) ∈ AW := inAW_15 (List.mem_of_getElem? (i := 31) rfl)
theorem k_932 : (.selects "TaleMachineModel" y_Model_assign y_Model_assign : Cond) ∈ AW := inAW_15 (List.mem_of_getElem? (i := 32) rfl)
theorem k_933 : (.selects "TaleMachineModel" y_Model_end y_Model_end : Cond) ∈ AW := inAW_15 (List.mem_of_getElem? (i := 33) rfl)
theorem k_934 : (.selects "TaleMachineModel" y_Model_world y_Model_world : Cond) ∈ AW := inAW_15 (List.mem_of_getElem? (i := 34) rfl)
theorem k_935 : (.selects "TaleMachineModel" y_Model_make y_Model_make : Cond) ∈ AW := inAW_15 (List.mem_of_getElem? (i := 35) rfl)
theorem k_936 : (.selects "TaleMachineModel" y_Model_point y_Model_point : Cond) ∈ AW := inAW_15 (List.mem_of_getElem? (i := 36) rfl)
theorem k_937 : (.selects "TaleMachineModel" y_Model_copy y_Model_copy : Cond) ∈ AW := inAW_15 (List.mem_of_getElem? (i := 37) rfl)
theorem k_938 : (.selects "TaleMachineModel" y_Model_mark y_Model_mark : Cond) ∈ AW := inAW_15 (List.mem_of_getElem? (i := 38) rfl)
theorem k_939 : (.selects "TaleMachineModel" y_Model_spread y_Model_spread : Cond) ∈ AW := inAW_15 (List.mem_of_getElem? (i := 39) rfl)
theorem k_940 : (.selects "TaleMachineModel" y_Model_refuse y_Model_refuse : Cond) ∈ AW := inAW_15 (List.mem_of_getElem? (i := 40) rfl)
theorem AW_all : AW.all goodWord = true := by decide +kernel
theorem in_Frame : ∀ w ∈ u_ws "TaleMachine$Frame" F_Frame 8, w ∈ AW := by
  show ∀ w ∈ ([.lays "TaleMachine$Frame" "TaleMachine$Frame" "method" "I", .lays "TaleMachine$Frame" "TaleMachine$Frame" "beginning" "I", .lays "TaleMachine$Frame" "TaleMachine$Frame" "self" "I", .lays "TaleMachine$Frame" "TaleMachine$Frame" "found" "I", .lays "TaleMachine$Frame" "TaleMachine$Frame" "place" "I", .lays "TaleMachine$Frame" "TaleMachine$Frame" "behind" "I", .lays "TaleMachine$Frame" "TaleMachine$Frame" "base" "I", .lays "TaleMachine$Frame" "TaleMachine$Frame" "floor" "I"] : List Cond), w ∈ AW
  exact List.forall_mem_cons.mpr ⟨k_137, List.forall_mem_cons.mpr ⟨k_138, List.forall_mem_cons.mpr ⟨k_139, List.forall_mem_cons.mpr ⟨k_140, List.forall_mem_cons.mpr ⟨k_141, List.forall_mem_cons.mpr ⟨k_142, List.forall_mem_cons.mpr ⟨k_143, List.forall_mem_cons.mpr ⟨k_144, fun _ h => absurd h List.not_mem_nil⟩⟩⟩⟩⟩⟩⟩⟩
theorem in_History : ∀ w ∈ u_ws "TaleMachine$History" F_History 4, w ∈ AW := by
  show ∀ w ∈ ([.laysFinal "TaleMachine$History" "TaleMachine$History" "pointed" "[LTaleMachine$State;", .laysFinal "TaleMachine$History" "TaleMachine$History" "saved" "[LTaleMachine$State;", .laysFinal "TaleMachine$History" "TaleMachine$History" "isSaved" "[Z", .lays "TaleMachine$History" "TaleMachine$History" "points" "I"] : List Cond), w ∈ AW
  exact List.forall_mem_cons.mpr ⟨k_93, List.forall_mem_cons.mpr ⟨k_94, List.forall_mem_cons.mpr ⟨k_95, List.forall_mem_cons.mpr ⟨k_96, fun _ h => absurd h List.not_mem_nil⟩⟩⟩⟩
theorem in_Script : ∀ w ∈ u_ws "TaleMachine$Script" F_Script 2, w ∈ AW := by
  show ∀ w ∈ ([.laysFinal "TaleMachine$Script" "TaleMachine$Script" "bytes" "[I", .lays "TaleMachine$Script" "TaleMachine$Script" "length" "I"] : List Cond), w ∈ AW
  exact List.forall_mem_cons.mpr ⟨k_34, List.forall_mem_cons.mpr ⟨k_35, fun _ h => absurd h List.not_mem_nil⟩⟩
theorem in_State : ∀ w ∈ u_ws "TaleMachine$State" F_State 3, w ∈ AW := by
  show ∀ w ∈ ([.laysFinal "TaleMachine$State" "TaleMachine$State" "kinds" "[I", .laysFinal "TaleMachine$State" "TaleMachine$State" "ints" "[I", .laysFinal "TaleMachine$State" "TaleMachine$State" "parents" "[I"] : List Cond), w ∈ AW
  exact List.forall_mem_cons.mpr ⟨k_57, List.forall_mem_cons.mpr ⟨k_58, List.forall_mem_cons.mpr ⟨k_59, fun _ h => absurd h List.not_mem_nil⟩⟩⟩
theorem in_Teller : ∀ w ∈ u_ws "TaleMachine$Teller" F_Teller 9, w ∈ AW := by
  show ∀ w ∈ ([.laysFinal "TaleMachine$Teller" "TaleMachine$Teller" "script" "LTaleMachine$Script;", .laysFinal "TaleMachine$Teller" "TaleMachine$Teller" "world" "LTaleMachine$World;", .laysFinal "TaleMachine$Teller" "TaleMachine$Teller" "history" "LTaleMachine$History;", .laysFinal "TaleMachine$Teller" "TaleMachine$Teller" "frames" "[LTaleMachine$Frame;", .laysFinal "TaleMachine$Teller" "TaleMachine$Teller" "values" "LTaleMachine$Values;", .laysFinal "TaleMachine$Teller" "TaleMachine$Teller" "sayings" "LTaleMachine$Values;", .laysFinal "TaleMachine$Teller" "TaleMachine$Teller" "result" "LTaleMachine$Values;", .lays "TaleMachine$Teller" "TaleMachine$Teller" "depth" "I", .lays "TaleMachine$Teller" "TaleMachine$Teller" "outcome" "I"] : List Cond), w ∈ AW
  exact List.forall_mem_cons.mpr ⟨k_159, List.forall_mem_cons.mpr ⟨k_160, List.forall_mem_cons.mpr ⟨k_161, List.forall_mem_cons.mpr ⟨k_162, List.forall_mem_cons.mpr ⟨k_163, List.forall_mem_cons.mpr ⟨k_164, List.forall_mem_cons.mpr ⟨k_165, List.forall_mem_cons.mpr ⟨k_166, List.forall_mem_cons.mpr ⟨k_167, fun _ h => absurd h List.not_mem_nil⟩⟩⟩⟩⟩⟩⟩⟩⟩
theorem in_Values : ∀ w ∈ u_ws "TaleMachine$Values" F_Values 3, w ∈ AW := by
  show ∀ w ∈ ([.laysFinal "TaleMachine$Values" "TaleMachine$Values" "kinds" "[I", .laysFinal "TaleMachine$Values" "TaleMachine$Values" "ints" "[I", .lays "TaleMachine$Values" "TaleMachine$Values" "count" "I"] : List Cond), w ∈ AW
  exact List.forall_mem_cons.mpr ⟨k_120, List.forall_mem_cons.mpr ⟨k_121, List.forall_mem_cons.mpr ⟨k_122, fun _ h => absurd h List.not_mem_nil⟩⟩⟩
theorem in_World : ∀ w ∈ u_ws "TaleMachine$World" F_World 9, w ∈ AW := by
  show ∀ w ∈ ([.laysFinal "TaleMachine$World" "TaleMachine$World" "now" "LTaleMachine$State;", .lays "TaleMachine$World" "TaleMachine$World" "fixed" "I", .laysFinal "TaleMachine$World" "TaleMachine$World" "fixedLines" "[I", .laysFinal "TaleMachine$World" "TaleMachine$World" "fixedLengths" "[I", .laysFinal "TaleMachine$World" "TaleMachine$World" "line" "[I", .lays "TaleMachine$World" "TaleMachine$World" "length" "I", .laysFinal "TaleMachine$World" "TaleMachine$World" "reached" "[I", .lays "TaleMachine$World" "TaleMachine$World" "reachedCount" "I", .lays "TaleMachine$World" "TaleMachine$World" "reachedBits" "I"] : List Cond), w ∈ AW
  exact List.forall_mem_cons.mpr ⟨k_71, List.forall_mem_cons.mpr ⟨k_72, List.forall_mem_cons.mpr ⟨k_73, List.forall_mem_cons.mpr ⟨k_74, List.forall_mem_cons.mpr ⟨k_75, List.forall_mem_cons.mpr ⟨k_76, List.forall_mem_cons.mpr ⟨k_77, List.forall_mem_cons.mpr ⟨k_78, List.forall_mem_cons.mpr ⟨k_79, fun _ h => absurd h List.not_mem_nil⟩⟩⟩⟩⟩⟩⟩⟩⟩
theorem in_TM : ∀ w ∈ u_ws "TaleMachine" F_TM 4, w ∈ AW := by
  show ∀ w ∈ ([.laysFinal "TaleMachine" "TaleMachine" "script" "LTaleMachine$Script;", .laysFinal "TaleMachine" "TaleMachine" "world" "LTaleMachine$World;", .laysFinal "TaleMachine" "TaleMachine" "history" "LTaleMachine$History;", .laysFinal "TaleMachine" "TaleMachine" "teller" "LTaleMachine$Teller;"] : List Cond), w ∈ AW
  exact List.forall_mem_cons.mpr ⟨k_172, List.forall_mem_cons.mpr ⟨k_173, List.forall_mem_cons.mpr ⟨k_174, List.forall_mem_cons.mpr ⟨k_175, fun _ h => absurd h List.not_mem_nil⟩⟩⟩⟩
theorem in_Model : ∀ w ∈ u_ws "TaleMachineModel" F_Model 31, w ∈ AW := by
  show ∀ w ∈ ([.lays "TaleMachineModel" "TaleMachineModel" "code" "I", .laysFinal "TaleMachineModel" "TaleMachineModel" "bytes" "[I", .lays "TaleMachineModel" "TaleMachineModel" "size" "I", .laysFinal "TaleMachineModel" "TaleMachineModel" "w" "[I", .lays "TaleMachineModel" "TaleMachineModel" "fixed" "I", .lays "TaleMachineModel" "TaleMachineModel" "points" "I", .laysFinal "TaleMachineModel" "TaleMachineModel" "saved" "[Z", .lays "TaleMachineModel" "TaleMachineModel" "length" "I", .laysFinal "TaleMachineModel" "TaleMachineModel" "line" "[I", .laysFinal "TaleMachineModel" "TaleMachineModel" "met" "[Z", .laysFinal "TaleMachineModel" "TaleMachineModel" "waiting" "[I", .laysFinal "TaleMachineModel" "TaleMachineModel" "nextParent" "[I", .lays "TaleMachineModel" "TaleMachineModel" "height" "I", .laysFinal "TaleMachineModel" "TaleMachineModel" "kind" "[I", .laysFinal "TaleMachineModel" "TaleMachineModel" "number" "[I", .lays "TaleMachineModel" "TaleMachineModel" "depth" "I", .laysFinal "TaleMachineModel" "TaleMachineModel" "begin" "[I", .laysFinal "TaleMachineModel" "TaleMachineModel" "table" "[I", .laysFinal "TaleMachineModel" "TaleMachineModel" "handlers" "[I", .laysFinal "TaleMachineModel" "TaleMachineModel" "base" "[I", .laysFinal "TaleMachineModel" "TaleMachineModel" "locals" "[I", .laysFinal "TaleMachineModel" "TaleMachineModel" "self" "[I", .laysFinal "TaleMachineModel" "TaleMachineModel" "found" "[I", .laysFinal "TaleMachineModel" "TaleMachineModel" "place" "[I", .laysFinal "TaleMachineModel" "TaleMachineModel" "next" "[I", .lays "TaleMachineModel" "TaleMachineModel" "said" "I", .laysFinal "TaleMachineModel" "TaleMachineModel" "saidKind" "[I", .laysFinal "TaleMachineModel" "TaleMachineModel" "saidNumber" "[I", .lays "TaleMachineModel" "TaleMachineModel" "resultKind" "I", .lays "TaleMachineModel" "TaleMachineModel" "resultNumber" "I", .lays "TaleMachineModel" "TaleMachineModel" "ended" "I"] : List Cond), w ∈ AW
  exact List.forall_mem_cons.mpr ⟨k_659, List.forall_mem_cons.mpr ⟨k_660, List.forall_mem_cons.mpr ⟨k_661, List.forall_mem_cons.mpr ⟨k_662, List.forall_mem_cons.mpr ⟨k_663, List.forall_mem_cons.mpr ⟨k_664, List.forall_mem_cons.mpr ⟨k_665, List.forall_mem_cons.mpr ⟨k_666, List.forall_mem_cons.mpr ⟨k_667, List.forall_mem_cons.mpr ⟨k_668, List.forall_mem_cons.mpr ⟨k_669, List.forall_mem_cons.mpr ⟨k_670, List.forall_mem_cons.mpr ⟨k_671, List.forall_mem_cons.mpr ⟨k_672, List.forall_mem_cons.mpr ⟨k_673, List.forall_mem_cons.mpr ⟨k_674, List.forall_mem_cons.mpr ⟨k_675, List.forall_mem_cons.mpr ⟨k_676, List.forall_mem_cons.mpr ⟨k_677, List.forall_mem_cons.mpr ⟨k_678, List.forall_mem_cons.mpr ⟨k_679, List.forall_mem_cons.mpr ⟨k_680, List.forall_mem_cons.mpr ⟨k_681, List.forall_mem_cons.mpr ⟨k_682, List.forall_mem_cons.mpr ⟨k_683, List.forall_mem_cons.mpr ⟨k_684, List.forall_mem_cons.mpr ⟨k_685, List.forall_mem_cons.mpr ⟨k_686, List.forall_mem_cons.mpr ⟨k_687, List.forall_mem_cons.mpr ⟨k_688, List.forall_mem_cons.mpr ⟨k_689, fun _ h => absurd h List.not_mem_nil⟩⟩⟩⟩⟩⟩⟩⟩⟩⟩⟩⟩⟩⟩⟩⟩⟩⟩⟩⟩⟩⟩⟩⟩⟩⟩⟩⟩⟩⟩⟩
set_option maxRecDepth 100000 in
set_option maxHeartbeats 4000000 in
theorem AW_tbl {args : Array Value} {s : State} (hts : ∀ w ∈ lw_tbl, w.before args s = true) : ∀ w ∈ AW, w.before args s = true := by
  have h0 : ∀ w ∈ AW_0, w.before args s = true := by
    refine List.forall_mem_cons.mpr ⟨hts _ (List.mem_append_right _ (List.mem_of_getElem? (i := 0) rfl)), List.forall_mem_cons.mpr ⟨hts _ (List.mem_append_right _ (List.mem_of_getElem? (i := 1) rfl)), List.forall_mem_cons.mpr ⟨hts _ (List.mem_append_right _ (List.mem_of_getElem? (i := 2) rfl)), List.forall_mem_cons.mpr ⟨hts _ (List.mem_append_right _ (List.mem_of_getElem? (i := 3) rfl)), List.forall_mem_cons.mpr ⟨hts _ (List.mem_append_right _ (List.mem_of_getElem? (i := 4) rfl)), List.forall_mem_cons.mpr ⟨hts _ (List.mem_append_right _ (List.mem_of_getElem? (i := 5) rfl)), List.forall_mem_cons.mpr ⟨hts _ (List.mem_append_right _ (List.mem_of_getElem? (i := 6) rfl)), List.forall_mem_cons.mpr ⟨hts _ (List.mem_append_right _ (List.mem_of_getElem? (i := 7) rfl)), List.forall_mem_cons.mpr ⟨hts _ (List.mem_append_right _ (List.mem_of_getElem? (i := 8) rfl)), List.forall_mem_cons.mpr ⟨hts _ (List.mem_append_right _ (List.mem_of_getElem? (i := 9) rfl)), List.forall_mem_cons.mpr ⟨hts _ (List.mem_append_right _ (List.mem_of_getElem? (i := 10) rfl)), List.forall_mem_cons.mpr ⟨hts _ (List.mem_append_right _ (List.mem_of_getElem? (i := 11) rfl)), List.forall_mem_cons.mpr ⟨hts _ (List.mem_append_right _ (List.mem_of_getElem? (i := 12) rfl)), List.forall_mem_cons.mpr ⟨hts _ (List.mem_append_right _ (List.mem_of_getElem? (i := 13) rfl)), List.forall_mem_cons.mpr ⟨hts _ (List.mem_append_right _ (List.mem_of_getElem? (i := 14) rfl)), List.forall_mem_cons.mpr ⟨hts _ (List.mem_append_right _ (List.mem_of_getElem? (i := 15) rfl)), List.forall_mem_cons.mpr ⟨hts _ (List.mem_append_right _ (List.mem_of_getElem? (i := 16) rfl)), List.forall_mem_cons.mpr ⟨hts _ (List.mem_append_right _ (List.mem_of_getElem? (i := 17) rfl)), List.forall_mem_cons.mpr ⟨hts _ (List.mem_append_right _ (List.mem_of_getElem? (i := 18) rfl)), List.forall_mem_cons.mpr ⟨hts _ (List.mem_append_right _ (List.mem_of_getElem? (i := 19) rfl)), List.forall_mem_cons.mpr ⟨hts _ (List.mem_append_right _ (List.mem_of_getElem? (i := 20) rfl)), List.forall_mem_cons.mpr ⟨hts _ (List.mem_append_right _ (List.mem_of_getElem? (i := 21) rfl)), List.forall_mem_cons.mpr ⟨hts _ (List.mem_append_right _ (List.mem_of_getElem? (i := 22) rfl)), List.forall_mem_cons.mpr ⟨hts _ (List.mem_append_right _ (List.mem_of_getElem? (i := 23) rfl)), List.forall_mem_cons.mpr ⟨hts _ (List.mem_append_right _ (List.mem_of_getElem? (i := 24) rfl)), List.forall_mem_cons.mpr ⟨hts _ (List.mem_append_right _ (List.mem_of_getElem? (i := 25) rfl)), List.forall_mem_cons.mpr ⟨hts _ (List.mem_append_right _ (List.mem_of_getElem? (i := 26) rfl)), List.forall_mem_cons.mpr ⟨hts _ (List.mem_append_right _ (List.mem_of_getElem? (i := 27) rfl)), List.forall_mem_cons.mpr ⟨hts _ (List.mem_append_right _ (List.mem_of_getElem? (i := 28) rfl)), List.forall_mem_cons.mpr ⟨hts _ (List.mem_append_right _ (List.mem_of_getElem? (i := 30) rfl)), List.forall_mem_cons.mpr ⟨hts _ (List.mem_append_right _ (List.mem_of_getElem? (i := 31) rfl)), List.forall_mem_cons.mpr ⟨hts _ (List.mem_append_right _ (List.mem_of_getElem? (i := 32) rfl)), List.forall_mem_cons.mpr ⟨hts _ (List.mem_append_right _ (List.mem_of_getElem? (i := 33) rfl)), List.forall_mem_cons.mpr ⟨hts _ (List.mem_append_right _ (List.mem_of_getElem? (i := 34) rfl)), List.forall_mem_cons.mpr ⟨hts _ (List.mem_append_right _ (List.mem_of_getElem? (i := 35) rfl)), List.forall_mem_cons.mpr ⟨hts _ (List.mem_append_right _ (List.mem_of_getElem? (i := 37) rfl)), List.forall_mem_cons.mpr ⟨hts _ (List.mem_append_right _ (List.mem_of_getElem? (i := 40) rfl)), List.forall_mem_cons.mpr ⟨hts _ (List.mem_append_right _ (List.mem_of_getElem? (i := 41) rfl)), List.forall_mem_cons.mpr ⟨hts _ (List.mem_append_right _ (List.mem_of_getElem? (i := 42) rfl)), List.forall_mem_cons.mpr ⟨hts _ (List.mem_append_right _ (List.mem_of_getElem? (i := 44) rfl)), List.forall_mem_cons.mpr ⟨hts _ (List.mem_append_right _ (List.mem_of_getElem? (i := 45) rfl)), List.forall_mem_cons.mpr ⟨hts _ (List.mem_append_right _ (List.mem_of_getElem? (i := 46) rfl)), List.forall_mem_cons.mpr ⟨hts _ (List.mem_append_right _ (List.mem_of_getElem? (i := 47) rfl)), List.forall_mem_cons.mpr ⟨hts _ (List.mem_append_right _ (List.mem_of_getElem? (i := 48) rfl)), List.forall_mem_cons.mpr ⟨hts _ (List.mem_append_right _ (List.mem_of_getElem? (i := 49) rfl)), List.forall_mem_cons.mpr ⟨hts _ (List.mem_append_right _ (List.mem_of_getElem? (i := 50) rfl)), List.forall_mem_cons.mpr ⟨hts _ (List.mem_append_right _ (List.mem_of_getElem? (i := 51) rfl)), List.forall_mem_cons.mpr ⟨hts _ (List.mem_append_right _ (List.mem_of_getElem? (i := 52) rfl)), List.forall_mem_cons.mpr ⟨hts _ (List.mem_append_right _ (List.mem_of_getElem? (i := 53) rfl)), List.forall_mem_cons.mpr ⟨hts _ (List.mem_append_right _ (List.mem_of_getElem? (i := 54) rfl)), List.forall_mem_cons.mpr ⟨hts _ (List.mem_append_right _ (List.mem_of_getElem? (i := 55) rfl)), List.forall_mem_cons.mpr ⟨hts _ (List.mem_append_right _ (List.mem_of_getElem? (i := 56) rfl)), List.forall_mem_cons.mpr ⟨hts _ (List.mem_append_right _ (List.mem_of_getElem? (i := 57) rfl)), List.forall_mem_cons.mpr ⟨hts _ (List.mem_append_right _ (List.mem_of_getElem? (i := 58) rfl)), List.forall_mem_cons.mpr ⟨hts _ (List.mem_append_right _ (List.mem_of_getElem? (i := 59) rfl)), List.forall_mem_cons.mpr ⟨hts _ (List.mem_append_right _ (List.mem_of_getElem? (i := 60) rfl)), List.forall_mem_cons.mpr ⟨hts _ (List.mem_append_right _ (List.mem_of_getElem? (i := 61) rfl)), List.forall_mem_cons.mpr ⟨hts _ (List.mem_append_right _ (List.mem_of_getElem? (i := 62) rfl)), List.forall_mem_cons.mpr ⟨hts _ (List.mem_append_right _ (List.mem_of_getElem? (i := 64) rfl)), List.forall_mem_cons.mpr ⟨hts _ (List.mem_append_right _ (List.mem_of_getElem? (i := 66) rfl)), fun _ h => absurd h List.not_mem_nil⟩⟩⟩⟩⟩⟩⟩⟩⟩⟩⟩⟩⟩⟩⟩⟩⟩⟩⟩⟩⟩⟩⟩⟩⟩⟩⟩⟩⟩⟩⟩⟩⟩⟩⟩⟩⟩⟩⟩⟩⟩⟩⟩⟩⟩⟩⟩⟩⟩⟩⟩⟩⟩⟩⟩⟩⟩⟩⟩⟩
  have h1 : ∀ w ∈ AW_1, w.before args s = true := by
    refine List.forall_mem_cons.mpr ⟨hts _ (List.mem_append_right _ (List.mem_of_getElem? (i := 69) rfl)), List.forall_mem_cons.mpr ⟨hts _ (List.mem_append_right _ (List.mem_of_getElem? (i := 70) rfl)), List.forall_mem_cons.mpr ⟨hts _ (List.mem_append_right _ (List.mem_of_getElem? (i := 71) rfl)), List.forall_mem_cons.mpr ⟨hts _ (List.mem_append_right _ (List.mem_of_getElem? (i := 72) rfl)), List.forall_mem_cons.mpr ⟨hts _ (List.mem_append_right _ (List.mem_of_getElem? (i := 73) rfl)), List.forall_mem_cons.mpr ⟨hts _ (List.mem_append_right _ (List.mem_of_getElem? (i := 74) rfl)), List.forall_mem_cons.mpr ⟨hts _ (List.mem_append_right _ (List.mem_of_getElem? (i := 75) rfl)), List.forall_mem_cons.mpr ⟨hts _ (List.mem_append_right _ (List.mem_of_getElem? (i := 76) rfl)), List.forall_mem_cons.mpr ⟨hts _ (List.mem_append_right _ (List.mem_of_getElem? (i := 77) rfl)), List.forall_mem_cons.mpr ⟨hts _ (List.mem_append_right _ (List.mem_of_getElem? (i := 78) rfl)), List.forall_mem_cons.mpr ⟨hts _ (List.mem_append_right _ (List.mem_of_getElem? (i := 79) rfl)), List.forall_mem_cons.mpr ⟨hts _ (List.mem_append_right _ (List.mem_of_getElem? (i := 80) rfl)), List.forall_mem_cons.mpr ⟨hts _ (List.mem_append_right _ (List.mem_of_getElem? (i := 82) rfl)), List.forall_mem_cons.mpr ⟨hts _ (List.mem_append_right _ (List.mem_of_getElem? (i := 84) rfl)), List.forall_mem_cons.mpr ⟨hts _ (List.mem_append_right _ (List.mem_of_getElem? (i := 86) rfl)), List.forall_mem_cons.mpr ⟨hts _ (List.mem_append_right _ (List.mem_of_getElem? (i := 88) rfl)), List.forall_mem_cons.mpr ⟨hts _ (List.mem_append_right _ (List.mem_of_getElem? (i := 90) rfl)), List.forall_mem_cons.mpr ⟨hts _ (List.mem_append_right _ (List.mem_of_getElem? (i := 92) rfl)), List.forall_mem_cons.mpr ⟨hts _ (List.mem_append_right _ (List.mem_of_getElem? (i := 94) rfl)), List.forall_mem_cons.mpr ⟨hts _ (List.mem_append_right _ (List.mem_of_getElem? (i := 96) rfl)), List.forall_mem_cons.mpr ⟨hts _ (List.mem_append_right _ (List.mem_of_getElem? (i := 99) rfl)), List.forall_mem_cons.mpr ⟨hts _ (List.mem_append_right _ (List.mem_of_getElem? (i := 100) rfl)), List.forall_mem_cons.mpr ⟨hts _ (List.mem_append_right _ (List.mem_of_getElem? (i := 101) rfl)), List.forall_mem_cons.mpr ⟨hts _ (List.mem_append_right _ (List.mem_of_getElem? (i := 102) rfl)), List.forall_mem_cons.mpr ⟨hts _ (List.mem_append_right _ (List.mem_of_getElem? (i := 103) rfl)), List.forall_mem_cons.mpr ⟨hts _ (List.mem_append_right _ (List.mem_of_getElem? (i := 104) rfl)), List.forall_mem_cons.mpr ⟨hts _ (List.mem_append_right _ (List.mem_of_getElem? (i := 105) rfl)), List.forall_mem_cons.mpr ⟨hts _ (List.mem_append_right _ (List.mem_of_getElem? (i := 107) rfl)), List.forall_mem_cons.mpr ⟨hts _ (List.mem_append_right _ (List.mem_of_getElem? (i := 108) rfl)), List.forall_mem_cons.mpr ⟨hts _ (List.mem_append_right _ (List.mem_of_getElem? (i := 109) rfl)), List.forall_mem_cons.mpr ⟨hts _ (List.mem_append_right _ (List.mem_of_getElem? (i := 110) rfl)), List.forall_mem_cons.mpr ⟨hts _ (List.mem_append_right _ (List.mem_of_getElem? (i := 111) rfl)), List.forall_mem_cons.mpr ⟨hts _ (List.mem_append_right _ (List.mem_of_getElem? (i := 112) rfl)), List.forall_mem_cons.mpr ⟨hts _ (List.mem_append_right _ (List.mem_of_getElem? (i := 113) rfl)), List.forall_mem_cons.mpr ⟨hts _ (List.mem_append_right _ (List.mem_of_getElem? (i := 115) rfl)), List.forall_mem_cons.mpr ⟨hts _ (List.mem_append_right _ (List.mem_of_getElem? (i := 117) rfl)), List.forall_mem_cons.mpr ⟨hts _ (List.mem_append_right _ (List.mem_of_getElem? (i := 119) rfl)), List.forall_mem_cons.mpr ⟨hts _ (List.mem_append_right _ (List.mem_of_getElem? (i := 122) rfl)), List.forall_mem_cons.mpr ⟨hts _ (List.mem_append_right _ (List.mem_of_getElem? (i := 123) rfl)), List.forall_mem_cons.mpr ⟨hts _ (List.mem_append_right _ (List.mem_of_getElem? (i := 124) rfl)), List.forall_mem_cons.mpr ⟨hts _ (List.mem_append_right _ (List.mem_of_getElem? (i := 125) rfl)), List.forall_mem_cons.mpr ⟨hts _ (List.mem_append_right _ (List.mem_of_getElem? (i := 126) rfl)), List.forall_mem_cons.mpr ⟨hts _ (List.mem_append_right _ (List.mem_of_getElem? (i := 127) rfl)), List.forall_mem_cons.mpr ⟨hts _ (List.mem_append_right _ (List.mem_of_getElem? (i := 128) rfl)), List.forall_mem_cons.mpr ⟨hts _ (List.mem_append_right _ (List.mem_of_getElem? (i := 129) rfl)), List.forall_mem_cons.mpr ⟨hts _ (List.mem_append_right _ (List.mem_of_getElem? (i := 131) rfl)), List.forall_mem_cons.mpr ⟨hts _ (List.mem_append_right _ (List.mem_of_getElem? (i := 132) rfl)), List.forall_mem_cons.mpr ⟨hts _ (List.mem_append_right _ (List.mem_of_getElem? (i := 133) rfl)), List.forall_mem_cons.mpr ⟨hts _ (List.mem_append_right _ (List.mem_of_getElem? (i := 134) rfl)), List.forall_mem_cons.mpr ⟨hts _ (List.mem_append_right _ (List.mem_of_getElem? (i := 135) rfl)), List.forall_mem_cons.mpr ⟨hts _ (List.mem_append_right _ (List.mem_of_getElem? (i := 136) rfl)), List.forall_mem_cons.mpr ⟨hts _ (List.mem_append_right _ (List.mem_of_getElem? (i := 137) rfl)), List.forall_mem_cons.mpr ⟨hts _ (List.mem_append_right _ (List.mem_of_getElem? (i := 138) rfl)), List.forall_mem_cons.mpr ⟨hts _ (List.mem_append_right _ (List.mem_of_getElem? (i := 139) rfl)), List.forall_mem_cons.mpr ⟨hts _ (List.mem_append_right _ (List.mem_of_getElem? (i := 140) rfl)), List.forall_mem_cons.mpr ⟨hts _ (List.mem_append_right _ (List.mem_of_getElem? (i := 141) rfl)), List.forall_mem_cons.mpr ⟨hts _ (List.mem_append_right _ (List.mem_of_getElem? (i := 142) rfl)), List.forall_mem_cons.mpr ⟨hts _ (List.mem_append_right _ (List.mem_of_getElem? (i := 143) rfl)), List.forall_mem_cons.mpr ⟨hts _ (List.mem_append_right _ (List.mem_of_getElem? (i := 144) rfl)), List.forall_mem_cons.mpr ⟨hts _ (List.mem_append_right _ (List.mem_of_getElem? (i := 145) rfl)), fun _ h => absurd h List.not_mem_nil⟩⟩⟩⟩⟩⟩⟩⟩⟩⟩⟩⟩⟩⟩⟩⟩⟩⟩⟩⟩⟩⟩⟩⟩⟩⟩⟩⟩⟩⟩⟩⟩⟩⟩⟩⟩⟩⟩⟩⟩⟩⟩⟩⟩⟩⟩⟩⟩⟩⟩⟩⟩⟩⟩⟩⟩⟩⟩⟩⟩
  have h2 : ∀ w ∈ AW_2, w.before args s = true := by
    refine List.forall_mem_cons.mpr ⟨hts _ (List.mem_append_right _ (List.mem_of_getElem? (i := 146) rfl)), List.forall_mem_cons.mpr ⟨hts _ (List.mem_append_right _ (List.mem_of_getElem? (i := 148) rfl)), List.forall_mem_cons.mpr ⟨hts _ (List.mem_append_right _ (List.mem_of_getElem? (i := 150) rfl)), List.forall_mem_cons.mpr ⟨hts _ (List.mem_append_right _ (List.mem_of_getElem? (i := 153) rfl)), List.forall_mem_cons.mpr ⟨hts _ (List.mem_append_right _ (List.mem_of_getElem? (i := 155) rfl)), List.forall_mem_cons.mpr ⟨hts _ (List.mem_append_right _ (List.mem_of_getElem? (i := 156) rfl)), List.forall_mem_cons.mpr ⟨hts _ (List.mem_append_right _ (List.mem_of_getElem? (i := 157) rfl)), List.forall_mem_cons.mpr ⟨hts _ (List.mem_append_right _ (List.mem_of_getElem? (i := 158) rfl)), List.forall_mem_cons.mpr ⟨hts _ (List.mem_append_right _ (List.mem_of_getElem? (i := 159) rfl)), List.forall_mem_cons.mpr ⟨hts _ (List.mem_append_right _ (List.mem_of_getElem? (i := 160) rfl)), List.forall_mem_cons.mpr ⟨hts _ (List.mem_append_right _ (List.mem_of_getElem? (i := 161) rfl)), List.forall_mem_cons.mpr ⟨hts _ (List.mem_append_right _ (List.mem_of_getElem? (i := 162) rfl)), List.forall_mem_cons.mpr ⟨hts _ (List.mem_append_right _ (List.mem_of_getElem? (i := 163) rfl)), List.forall_mem_cons.mpr ⟨hts _ (List.mem_append_right _ (List.mem_of_getElem? (i := 164) rfl)), List.forall_mem_cons.mpr ⟨hts _ (List.mem_append_right _ (List.mem_of_getElem? (i := 165) rfl)), List.forall_mem_cons.mpr ⟨hts _ (List.mem_append_right _ (List.mem_of_getElem? (i := 166) rfl)), List.forall_mem_cons.mpr ⟨hts _ (List.mem_append_right _ (List.mem_of_getElem? (i := 167) rfl)), List.forall_mem_cons.mpr ⟨hts _ (List.mem_append_right _ (List.mem_of_getElem? (i := 168) rfl)), List.forall_mem_cons.mpr ⟨hts _ (List.mem_append_right _ (List.mem_of_getElem? (i := 170) rfl)), List.forall_mem_cons.mpr ⟨hts _ (List.mem_append_right _ (List.mem_of_getElem? (i := 172) rfl)), List.forall_mem_cons.mpr ⟨hts _ (List.mem_append_right _ (List.mem_of_getElem? (i := 174) rfl)), List.forall_mem_cons.mpr ⟨hts _ (List.mem_append_right _ (List.mem_of_getElem? (i := 176) rfl)), List.forall_mem_cons.mpr ⟨hts _ (List.mem_append_right _ (List.mem_of_getElem? (i := 178) rfl)), List.forall_mem_cons.mpr ⟨hts _ (List.mem_append_right _ (List.mem_of_getElem? (i := 180) rfl)), List.forall_mem_cons.mpr ⟨hts _ (List.mem_append_right _ (List.mem_of_getElem? (i := 182) rfl)), List.forall_mem_cons.mpr ⟨hts _ (List.mem_append_right _ (List.mem_of_getElem? (i := 185) rfl)), List.forall_mem_cons.mpr ⟨hts _ (List.mem_append_right _ (List.mem_of_getElem? (i := 186) rfl)), List.forall_mem_cons.mpr ⟨hts _ (List.mem_append_right _ (List.mem_of_getElem? (i := 187) rfl)), List.forall_mem_cons.mpr ⟨hts _ (List.mem_append_right _ (List.mem_of_getElem? (i := 188) rfl)), List.forall_mem_cons.mpr ⟨hts _ (List.mem_append_right _ (List.mem_of_getElem? (i := 189) rfl)), List.forall_mem_cons.mpr ⟨hts _ (List.mem_append_right _ (List.mem_of_getElem? (i := 190) rfl)), List.forall_mem_cons.mpr ⟨hts _ (List.mem_append_right _ (List.mem_of_getElem? (i := 191) rfl)), List.forall_mem_cons.mpr ⟨hts _ (List.mem_append_right _ (List.mem_of_getElem? (i := 192) rfl)), List.forall_mem_cons.mpr ⟨hts _ (List.mem_append_right _ (List.mem_of_getElem? (i := 193) rfl)), List.forall_mem_cons.mpr ⟨hts _ (List.mem_append_right _ (List.mem_of_getElem? (i := 194) rfl)), List.forall_mem_cons.mpr ⟨hts _ (List.mem_append_right _ (List.mem_of_getElem? (i := 195) rfl)), List.forall_mem_cons.mpr ⟨hts _ (List.mem_append_right _ (List.mem_of_getElem? (i := 196) rfl)), List.forall_mem_cons.mpr ⟨hts _ (List.mem_append_right _ (List.mem_of_getElem? (i := 197) rfl)), List.forall_mem_cons.mpr ⟨hts _ (List.mem_append_right _ (List.mem_of_getElem? (i := 198) rfl)), List.forall_mem_cons.mpr ⟨hts _ (List.mem_append_right _ (List.mem_of_getElem? (i := 199) rfl)), List.forall_mem_cons.mpr ⟨hts _ (List.mem_append_right _ (List.mem_of_getElem? (i := 201) rfl)), List.forall_mem_cons.mpr ⟨hts _ (List.mem_append_right _ (List.mem_of_getElem? (i := 203) rfl)), List.forall_mem_cons.mpr ⟨hts _ (List.mem_append_right _ (List.mem_of_getElem? (i := 205) rfl)), List.forall_mem_cons.mpr ⟨hts _ (List.mem_append_right _ (List.mem_of_getElem? (i := 207) rfl)), List.forall_mem_cons.mpr ⟨hts _ (List.mem_append_right _ (List.mem_of_getElem? (i := 209) rfl)), List.forall_mem_cons.mpr ⟨hts _ (List.mem_append_right _ (List.mem_of_getElem? (i := 211) rfl)), List.forall_mem_cons.mpr ⟨hts _ (List.mem_append_right _ (List.mem_of_getElem? (i := 213) rfl)), List.forall_mem_cons.mpr ⟨hts _ (List.mem_append_right _ (List.mem_of_getElem? (i := 215) rfl)), List.forall_mem_cons.mpr ⟨hts _ (List.mem_append_right _ (List.mem_of_getElem? (i := 218) rfl)), List.forall_mem_cons.mpr ⟨hts _ (List.mem_append_right _ (List.mem_of_getElem? (i := 219) rfl)), List.forall_mem_cons.mpr ⟨hts _ (List.mem_append_right _ (List.mem_of_getElem? (i := 220) rfl)), List.forall_mem_cons.mpr ⟨hts _ (List.mem_append_right _ (List.mem_of_getElem? (i := 221) rfl)), List.forall_mem_cons.mpr ⟨hts _ (List.mem_append_right _ (List.mem_of_getElem? (i := 222) rfl)), List.forall_mem_cons.mpr ⟨hts _ (List.mem_append_right _ (List.mem_of_getElem? (i := 224) rfl)), List.forall_mem_cons.mpr ⟨hts _ (List.mem_append_right _ (List.mem_of_getElem? (i := 226) rfl)), List.forall_mem_cons.mpr ⟨hts _ (List.mem_append_right _ (List.mem_of_getElem? (i := 228) rfl)), List.forall_mem_cons.mpr ⟨hts _ (List.mem_append_right _ (List.mem_of_getElem? (i := 231) rfl)), List.forall_mem_cons.mpr ⟨hts _ (List.mem_append_right _ (List.mem_of_getElem? (i := 232) rfl)), List.forall_mem_cons.mpr ⟨hts _ (List.mem_append_right _ (List.mem_of_getElem? (i := 233) rfl)), List.forall_mem_cons.mpr ⟨hts _ (List.mem_append_right _ (List.mem_of_getElem? (i := 234) rfl)), fun _ h => absurd h List.not_mem_nil⟩⟩⟩⟩⟩⟩⟩⟩⟩⟩⟩⟩⟩⟩⟩⟩⟩⟩⟩⟩⟩⟩⟩⟩⟩⟩⟩⟩⟩⟩⟩⟩⟩⟩⟩⟩⟩⟩⟩⟩⟩⟩⟩⟩⟩⟩⟩⟩⟩⟩⟩⟩⟩⟩⟩⟩⟩⟩⟩⟩
  have h3 : ∀ w ∈ AW_3, w.before args s = true := by
    refine List.forall_mem_cons.mpr ⟨hts _ (List.mem_append_right _ (List.mem_of_getElem? (i := 235) rfl)), List.forall_mem_cons.mpr ⟨hts _ (List.mem_append_right _ (List.mem_of_getElem? (i := 236) rfl)), List.forall_mem_cons.mpr ⟨hts _ (List.mem_append_right _ (List.mem_of_getElem? (i := 237) rfl)), List.forall_mem_cons.mpr ⟨hts _ (List.mem_append_right _ (List.mem_of_getElem? (i := 238) rfl)), List.forall_mem_cons.mpr ⟨hts _ (List.mem_append_right _ (List.mem_of_getElem? (i := 239) rfl)), List.forall_mem_cons.mpr ⟨hts _ (List.mem_append_right _ (List.mem_of_getElem? (i := 240) rfl)), List.forall_mem_cons.mpr ⟨hts _ (List.mem_append_right _ (List.mem_of_getElem? (i := 241) rfl)), List.forall_mem_cons.mpr ⟨hts _ (List.mem_append_right _ (List.mem_of_getElem? (i := 242) rfl)), List.forall_mem_cons.mpr ⟨hts _ (List.mem_append_right _ (List.mem_of_getElem? (i := 243) rfl)), List.forall_mem_cons.mpr ⟨hts _ (List.mem_append_right _ (List.mem_of_getElem? (i := 244) rfl)), List.forall_mem_cons.mpr ⟨hts _ (List.mem_append_right _ (List.mem_of_getElem? (i := 245) rfl)), List.forall_mem_cons.mpr ⟨hts _ (List.mem_append_right _ (List.mem_of_getElem? (i := 246) rfl)), List.forall_mem_cons.mpr ⟨hts _ (List.mem_append_right _ (List.mem_of_getElem? (i := 247) rfl)), List.forall_mem_cons.mpr ⟨hts _ (List.mem_append_right _ (List.mem_of_getElem? (i := 248) rfl)), List.forall_mem_cons.mpr ⟨hts _ (List.mem_append_right _ (List.mem_of_getElem? (i := 249) rfl)), List.forall_mem_cons.mpr ⟨hts _ (List.mem_append_right _ (List.mem_of_getElem? (i := 250) rfl)), List.forall_mem_cons.mpr ⟨hts _ (List.mem_append_right _ (List.mem_of_getElem? (i := 251) rfl)), List.forall_mem_cons.mpr ⟨hts _ (List.mem_append_right _ (List.mem_of_getElem? (i := 252) rfl)), List.forall_mem_cons.mpr ⟨hts _ (List.mem_append_right _ (List.mem_of_getElem? (i := 253) rfl)), List.forall_mem_cons.mpr ⟨hts _ (List.mem_append_right _ (List.mem_of_getElem? (i := 254) rfl)), List.forall_mem_cons.mpr ⟨hts _ (List.mem_append_right _ (List.mem_of_getElem? (i := 255) rfl)), List.forall_mem_cons.mpr ⟨hts _ (List.mem_append_right _ (List.mem_of_getElem? (i := 256) rfl)), List.forall_mem_cons.mpr ⟨hts _ (List.mem_append_right _ (List.mem_of_getElem? (i := 257) rfl)), List.forall_mem_cons.mpr ⟨hts _ (List.mem_append_right _ (List.mem_of_getElem? (i := 258) rfl)), List.forall_mem_cons.mpr ⟨hts _ (List.mem_append_right _ (List.mem_of_getElem? (i := 259) rfl)), List.forall_mem_cons.mpr ⟨hts _ (List.mem_append_right _ (List.mem_of_getElem? (i := 260) rfl)), List.forall_mem_cons.mpr ⟨hts _ (List.mem_append_right _ (List.mem_of_getElem? (i := 261) rfl)), List.forall_mem_cons.mpr ⟨hts _ (List.mem_append_right _ (List.mem_of_getElem? (i := 262) rfl)), List.forall_mem_cons.mpr ⟨hts _ (List.mem_append_right _ (List.mem_of_getElem? (i := 264) rfl)), List.forall_mem_cons.mpr ⟨hts _ (List.mem_append_right _ (List.mem_of_getElem? (i := 265) rfl)), List.forall_mem_cons.mpr ⟨hts _ (List.mem_append_right _ (List.mem_of_getElem? (i := 266) rfl)), List.forall_mem_cons.mpr ⟨hts _ (List.mem_append_right _ (List.mem_of_getElem? (i := 267) rfl)), List.forall_mem_cons.mpr ⟨hts _ (List.mem_append_right _ (List.mem_of_getElem? (i := 268) rfl)), List.forall_mem_cons.mpr ⟨hts _ (List.mem_append_right _ (List.mem_of_getElem? (i := 269) rfl)), List.forall_mem_cons.mpr ⟨hts _ (List.mem_append_right _ (List.mem_of_getElem? (i := 271) rfl)), List.forall_mem_cons.mpr ⟨hts _ (List.mem_append_right _ (List.mem_of_getElem? (i := 272) rfl)), List.forall_mem_cons.mpr ⟨hts _ (List.mem_append_right _ (List.mem_of_getElem? (i := 273) rfl)), List.forall_mem_cons.mpr ⟨hts _ (List.mem_append_right _ (List.mem_of_getElem? (i := 275) rfl)), List.forall_mem_cons.mpr ⟨hts _ (List.mem_append_right _ (List.mem_of_getElem? (i := 276) rfl)), List.forall_mem_cons.mpr ⟨hts _ (List.mem_append_right _ (List.mem_of_getElem? (i := 277) rfl)), List.forall_mem_cons.mpr ⟨hts _ (List.mem_append_right _ (List.mem_of_getElem? (i := 278) rfl)), List.forall_mem_cons.mpr ⟨hts _ (List.mem_append_right _ (List.mem_of_getElem? (i := 279) rfl)), List.forall_mem_cons.mpr ⟨hts _ (List.mem_append_right _ (List.mem_of_getElem? (i := 280) rfl)), List.forall_mem_cons.mpr ⟨hts _ (List.mem_append_right _ (List.mem_of_getElem? (i := 281) rfl)), List.forall_mem_cons.mpr ⟨hts _ (List.mem_append_right _ (List.mem_of_getElem? (i := 282) rfl)), List.forall_mem_cons.mpr ⟨hts _ (List.mem_append_right _ (List.mem_of_getElem? (i := 283) rfl)), List.forall_mem_cons.mpr ⟨hts _ (List.mem_append_right _ (List.mem_of_getElem? (i := 284) rfl)), List.forall_mem_cons.mpr ⟨hts _ (List.mem_append_right _ (List.mem_of_getElem? (i := 285) rfl)), List.forall_mem_cons.mpr ⟨hts _ (List.mem_append_right _ (List.mem_of_getElem? (i := 286) rfl)), List.forall_mem_cons.mpr ⟨hts _ (List.mem_append_right _ (List.mem_of_getElem? (i := 287) rfl)), List.forall_mem_cons.mpr ⟨hts _ (List.mem_append_right _ (List.mem_of_getElem? (i := 288) rfl)), List.forall_mem_cons.mpr ⟨hts _ (List.mem_append_right _ (List.mem_of_getElem? (i := 289) rfl)), List.forall_mem_cons.mpr ⟨hts _ (List.mem_append_right _ (List.mem_of_getElem? (i := 290) rfl)), List.forall_mem_cons.mpr ⟨hts _ (List.mem_append_right _ (List.mem_of_getElem? (i := 291) rfl)), List.forall_mem_cons.mpr ⟨hts _ (List.mem_append_right _ (List.mem_of_getElem? (i := 292) rfl)), List.forall_mem_cons.mpr ⟨hts _ (List.mem_append_right _ (List.mem_of_getElem? (i := 293) rfl)), List.forall_mem_cons.mpr ⟨hts _ (List.mem_append_right _ (List.mem_of_getElem? (i := 294) rfl)), List.forall_mem_cons.mpr ⟨hts _ (List.mem_append_right _ (List.mem_of_getElem? (i := 295) rfl)), List.forall_mem_cons.mpr ⟨hts _ (List.mem_append_right _ (List.mem_of_getElem? (i := 296) rfl)), List.forall_mem_cons.mpr ⟨hts _ (List.mem_append_right _ (List.mem_of_getElem? (i := 297) rfl)), fun _ h => absurd h List.not_mem_nil⟩⟩⟩⟩⟩⟩⟩⟩⟩⟩⟩⟩⟩⟩⟩⟩⟩⟩⟩⟩⟩⟩⟩⟩⟩⟩⟩⟩⟩⟩⟩⟩⟩⟩⟩⟩⟩⟩⟩⟩⟩⟩⟩⟩⟩⟩⟩⟩⟩⟩⟩⟩⟩⟩⟩⟩⟩⟩⟩⟩
  have h4 : ∀ w ∈ AW_4, w.before args s = true := by
    refine List.forall_mem_cons.mpr ⟨hts _ (List.mem_append_right _ (List.mem_of_getElem? (i := 298) rfl)), List.forall_mem_cons.mpr ⟨hts _ (List.mem_append_right _ (List.mem_of_getElem? (i := 300) rfl)), List.forall_mem_cons.mpr ⟨hts _ (List.mem_append_right _ (List.mem_of_getElem? (i := 301) rfl)), List.forall_mem_cons.mpr ⟨hts _ (List.mem_append_right _ (List.mem_of_getElem? (i := 302) rfl)), List.forall_mem_cons.mpr ⟨hts _ (List.mem_append_right _ (List.mem_of_getElem? (i := 304) rfl)), List.forall_mem_cons.mpr ⟨hts _ (List.mem_append_right _ (List.mem_of_getElem? (i := 305) rfl)), List.forall_mem_cons.mpr ⟨hts _ (List.mem_append_right _ (List.mem_of_getElem? (i := 306) rfl)), List.forall_mem_cons.mpr ⟨hts _ (List.mem_append_right _ (List.mem_of_getElem? (i := 308) rfl)), List.forall_mem_cons.mpr ⟨hts _ (List.mem_append_right _ (List.mem_of_getElem? (i := 309) rfl)), List.forall_mem_cons.mpr ⟨hts _ (List.mem_append_right _ (List.mem_of_getElem? (i := 310) rfl)), List.forall_mem_cons.mpr ⟨hts _ (List.mem_append_right _ (List.mem_of_getElem? (i := 312) rfl)), List.forall_mem_cons.mpr ⟨hts _ (List.mem_append_right _ (List.mem_of_getElem? (i := 313) rfl)), List.forall_mem_cons.mpr ⟨hts _ (List.mem_append_right _ (List.mem_of_getElem? (i := 314) rfl)), List.forall_mem_cons.mpr ⟨hts _ (List.mem_append_right _ (List.mem_of_getElem? (i := 316) rfl)), List.forall_mem_cons.mpr ⟨hts _ (List.mem_append_right _ (List.mem_of_getElem? (i := 317) rfl)), List.forall_mem_cons.mpr ⟨hts _ (List.mem_append_right _ (List.mem_of_getElem? (i := 318) rfl)), List.forall_mem_cons.mpr ⟨hts _ (List.mem_append_right _ (List.mem_of_getElem? (i := 320) rfl)), List.forall_mem_cons.mpr ⟨hts _ (List.mem_append_right _ (List.mem_of_getElem? (i := 321) rfl)), List.forall_mem_cons.mpr ⟨hts _ (List.mem_append_right _ (List.mem_of_getElem? (i := 322) rfl)), List.forall_mem_cons.mpr ⟨hts _ (List.mem_append_right _ (List.mem_of_getElem? (i := 324) rfl)), List.forall_mem_cons.mpr ⟨hts _ (List.mem_append_right _ (List.mem_of_getElem? (i := 325) rfl)), List.forall_mem_cons.mpr ⟨hts _ (List.mem_append_right _ (List.mem_of_getElem? (i := 326) rfl)), List.forall_mem_cons.mpr ⟨hts _ (List.mem_append_right _ (List.mem_of_getElem? (i := 328) rfl)), List.forall_mem_cons.mpr ⟨hts _ (List.mem_append_right _ (List.mem_of_getElem? (i := 329) rfl)), List.forall_mem_cons.mpr ⟨hts _ (List.mem_append_right _ (List.mem_of_getElem? (i := 330) rfl)), List.forall_mem_cons.mpr ⟨hts _ (List.mem_append_right _ (List.mem_of_getElem? (i := 332) rfl)), List.forall_mem_cons.mpr ⟨hts _ (List.mem_append_right _ (List.mem_of_getElem? (i := 333) rfl)), List.forall_mem_cons.mpr ⟨hts _ (List.mem_append_right _ (List.mem_of_getElem? (i := 334) rfl)), List.forall_mem_cons.mpr ⟨hts _ (List.mem_append_right _ (List.mem_of_getElem? (i := 335) rfl)), List.forall_mem_cons.mpr ⟨hts _ (List.mem_append_right _ (List.mem_of_getElem? (i := 336) rfl)), List.forall_mem_cons.mpr ⟨hts _ (List.mem_append_right _ (List.mem_of_getElem? (i := 337) rfl)), List.forall_mem_cons.mpr ⟨hts _ (List.mem_append_right _ (List.mem_of_getElem? (i := 338) rfl)), List.forall_mem_cons.mpr ⟨hts _ (List.mem_append_right _ (List.mem_of_getElem? (i := 339) rfl)), List.forall_mem_cons.mpr ⟨hts _ (List.mem_append_right _ (List.mem_of_getElem? (i := 340) rfl)), List.forall_mem_cons.mpr ⟨hts _ (List.mem_append_right _ (List.mem_of_getElem? (i := 341) rfl)), List.forall_mem_cons.mpr ⟨hts _ (List.mem_append_right _ (List.mem_of_getElem? (i := 343) rfl)), List.forall_mem_cons.mpr ⟨hts _ (List.mem_append_right _ (List.mem_of_getElem? (i := 344) rfl)), List.forall_mem_cons.mpr ⟨hts _ (List.mem_append_right _ (List.mem_of_getElem? (i := 345) rfl)), List.forall_mem_cons.mpr ⟨hts _ (List.mem_append_right _ (List.mem_of_getElem? (i := 346) rfl)), List.forall_mem_cons.mpr ⟨hts _ (List.mem_append_right _ (List.mem_of_getElem? (i := 347) rfl)), List.forall_mem_cons.mpr ⟨hts _ (List.mem_append_right _ (List.mem_of_getElem? (i := 348) rfl)), List.forall_mem_cons.mpr ⟨hts _ (List.mem_append_right _ (List.mem_of_getElem? (i := 349) rfl)), List.forall_mem_cons.mpr ⟨hts _ (List.mem_append_right _ (List.mem_of_getElem? (i := 351) rfl)), List.forall_mem_cons.mpr ⟨hts _ (List.mem_append_right _ (List.mem_of_getElem? (i := 352) rfl)), List.forall_mem_cons.mpr ⟨hts _ (List.mem_append_right _ (List.mem_of_getElem? (i := 353) rfl)), List.forall_mem_cons.mpr ⟨hts _ (List.mem_append_right _ (List.mem_of_getElem? (i := 354) rfl)), List.forall_mem_cons.mpr ⟨hts _ (List.mem_append_right _ (List.mem_of_getElem? (i := 355) rfl)), List.forall_mem_cons.mpr ⟨hts _ (List.mem_append_right _ (List.mem_of_getElem? (i := 356) rfl)), List.forall_mem_cons.mpr ⟨hts _ (List.mem_append_right _ (List.mem_of_getElem? (i := 357) rfl)), List.forall_mem_cons.mpr ⟨hts _ (List.mem_append_right _ (List.mem_of_getElem? (i := 358) rfl)), List.forall_mem_cons.mpr ⟨hts _ (List.mem_append_right _ (List.mem_of_getElem? (i := 359) rfl)), List.forall_mem_cons.mpr ⟨hts _ (List.mem_append_right _ (List.mem_of_getElem? (i := 360) rfl)), List.forall_mem_cons.mpr ⟨hts _ (List.mem_append_right _ (List.mem_of_getElem? (i := 361) rfl)), List.forall_mem_cons.mpr ⟨hts _ (List.mem_append_right _ (List.mem_of_getElem? (i := 363) rfl)), List.forall_mem_cons.mpr ⟨hts _ (List.mem_append_right _ (List.mem_of_getElem? (i := 364) rfl)), List.forall_mem_cons.mpr ⟨hts _ (List.mem_append_right _ (List.mem_of_getElem? (i := 365) rfl)), List.forall_mem_cons.mpr ⟨hts _ (List.mem_append_right _ (List.mem_of_getElem? (i := 366) rfl)), List.forall_mem_cons.mpr ⟨hts _ (List.mem_append_right _ (List.mem_of_getElem? (i := 367) rfl)), List.forall_mem_cons.mpr ⟨hts _ (List.mem_append_right _ (List.mem_of_getElem? (i := 368) rfl)), List.forall_mem_cons.mpr ⟨hts _ (List.mem_append_right _ (List.mem_of_getElem? (i := 370) rfl)), fun _ h => absurd h List.not_mem_nil⟩⟩⟩⟩⟩⟩⟩⟩⟩⟩⟩⟩⟩⟩⟩⟩⟩⟩⟩⟩⟩⟩⟩⟩⟩⟩⟩⟩⟩⟩⟩⟩⟩⟩⟩⟩⟩⟩⟩⟩⟩⟩⟩⟩⟩⟩⟩⟩⟩⟩⟩⟩⟩⟩⟩⟩⟩⟩⟩⟩
  have h5 : ∀ w ∈ AW_5, w.before args s = true := by
    refine List.forall_mem_cons.mpr ⟨hts _ (List.mem_append_right _ (List.mem_of_getElem? (i := 371) rfl)), List.forall_mem_cons.mpr ⟨hts _ (List.mem_append_right _ (List.mem_of_getElem? (i := 372) rfl)), List.forall_mem_cons.mpr ⟨hts _ (List.mem_append_right _ (List.mem_of_getElem? (i := 374) rfl)), List.forall_mem_cons.mpr ⟨hts _ (List.mem_append_right _ (List.mem_of_getElem? (i := 375) rfl)), List.forall_mem_cons.mpr ⟨hts _ (List.mem_append_right _ (List.mem_of_getElem? (i := 376) rfl)), List.forall_mem_cons.mpr ⟨hts _ (List.mem_append_right _ (List.mem_of_getElem? (i := 378) rfl)), List.forall_mem_cons.mpr ⟨hts _ (List.mem_append_right _ (List.mem_of_getElem? (i := 379) rfl)), List.forall_mem_cons.mpr ⟨hts _ (List.mem_append_right _ (List.mem_of_getElem? (i := 380) rfl)), List.forall_mem_cons.mpr ⟨hts _ (List.mem_append_right _ (List.mem_of_getElem? (i := 382) rfl)), List.forall_mem_cons.mpr ⟨hts _ (List.mem_append_right _ (List.mem_of_getElem? (i := 383) rfl)), List.forall_mem_cons.mpr ⟨hts _ (List.mem_append_right _ (List.mem_of_getElem? (i := 384) rfl)), List.forall_mem_cons.mpr ⟨hts _ (List.mem_append_right _ (List.mem_of_getElem? (i := 386) rfl)), List.forall_mem_cons.mpr ⟨hts _ (List.mem_append_right _ (List.mem_of_getElem? (i := 387) rfl)), List.forall_mem_cons.mpr ⟨hts _ (List.mem_append_right _ (List.mem_of_getElem? (i := 389) rfl)), List.forall_mem_cons.mpr ⟨hts _ (List.mem_append_right _ (List.mem_of_getElem? (i := 390) rfl)), List.forall_mem_cons.mpr ⟨hts _ (List.mem_append_right _ (List.mem_of_getElem? (i := 391) rfl)), List.forall_mem_cons.mpr ⟨hts _ (List.mem_append_right _ (List.mem_of_getElem? (i := 393) rfl)), List.forall_mem_cons.mpr ⟨hts _ (List.mem_append_right _ (List.mem_of_getElem? (i := 394) rfl)), List.forall_mem_cons.mpr ⟨hts _ (List.mem_append_right _ (List.mem_of_getElem? (i := 395) rfl)), List.forall_mem_cons.mpr ⟨hts _ (List.mem_append_right _ (List.mem_of_getElem? (i := 396) rfl)), List.forall_mem_cons.mpr ⟨hts _ (List.mem_append_right _ (List.mem_of_getElem? (i := 397) rfl)), List.forall_mem_cons.mpr ⟨hts _ (List.mem_append_right _ (List.mem_of_getElem? (i := 398) rfl)), List.forall_mem_cons.mpr ⟨hts _ (List.mem_append_right _ (List.mem_of_getElem? (i := 399) rfl)), List.forall_mem_cons.mpr ⟨hts _ (List.mem_append_right _ (List.mem_of_getElem? (i := 400) rfl)), List.forall_mem_cons.mpr ⟨hts _ (List.mem_append_right _ (List.mem_of_getElem? (i := 402) rfl)), List.forall_mem_cons.mpr ⟨hts _ (List.mem_append_right _ (List.mem_of_getElem? (i := 403) rfl)), List.forall_mem_cons.mpr ⟨hts _ (List.mem_append_right _ (List.mem_of_getElem? (i := 404) rfl)), List.forall_mem_cons.mpr ⟨hts _ (List.mem_append_right _ (List.mem_of_getElem? (i := 405) rfl)), List.forall_mem_cons.mpr ⟨hts _ (List.mem_append_right _ (List.mem_of_getElem? (i := 406) rfl)), List.forall_mem_cons.mpr ⟨hts _ (List.mem_append_right _ (List.mem_of_getElem? (i := 407) rfl)), List.forall_mem_cons.mpr ⟨hts _ (List.mem_append_right _ (List.mem_of_getElem? (i := 408) rfl)), List.forall_mem_cons.mpr ⟨hts _ (List.mem_append_right _ (List.mem_of_getElem? (i := 410) rfl)), List.forall_mem_cons.mpr ⟨hts _ (List.mem_append_right _ (List.mem_of_getElem? (i := 411) rfl)), List.forall_mem_cons.mpr ⟨hts _ (List.mem_append_right _ (List.mem_of_getElem? (i := 412) rfl)), List.forall_mem_cons.mpr ⟨hts _ (List.mem_append_right _ (List.mem_of_getElem? (i := 413) rfl)), List.forall_mem_cons.mpr ⟨hts _ (List.mem_append_right _ (List.mem_of_getElem? (i := 414) rfl)), List.forall_mem_cons.mpr ⟨hts _ (List.mem_append_right _ (List.mem_of_getElem? (i := 415) rfl)), List.forall_mem_cons.mpr ⟨hts _ (List.mem_append_right _ (List.mem_of_getElem? (i := 416) rfl)), List.forall_mem_cons.mpr ⟨hts _ (List.mem_append_right _ (List.mem_of_getElem? (i := 417) rfl)), List.forall_mem_cons.mpr ⟨hts _ (List.mem_append_right _ (List.mem_of_getElem? (i := 419) rfl)), List.forall_mem_cons.mpr ⟨hts _ (List.mem_append_right _ (List.mem_of_getElem? (i := 420) rfl)), List.forall_mem_cons.mpr ⟨hts _ (List.mem_append_right _ (List.mem_of_getElem? (i := 421) rfl)), List.forall_mem_cons.mpr ⟨hts _ (List.mem_append_right _ (List.mem_of_getElem? (i := 422) rfl)), List.forall_mem_cons.mpr ⟨hts _ (List.mem_append_right _ (List.mem_of_getElem? (i := 423) rfl)), List.forall_mem_cons.mpr ⟨hts _ (List.mem_append_right _ (List.mem_of_getElem? (i := 424) rfl)), List.forall_mem_cons.mpr ⟨hts _ (List.mem_append_right _ (List.mem_of_getElem? (i := 425) rfl)), List.forall_mem_cons.mpr ⟨hts _ (List.mem_append_right _ (List.mem_of_getElem? (i := 426) rfl)), List.forall_mem_cons.mpr ⟨hts _ (List.mem_append_right _ (List.mem_of_getElem? (i := 427) rfl)), List.forall_mem_cons.mpr ⟨hts _ (List.mem_append_right _ (List.mem_of_getElem? (i := 428) rfl)), List.forall_mem_cons.mpr ⟨hts _ (List.mem_append_right _ (List.mem_of_getElem? (i := 429) rfl)), List.forall_mem_cons.mpr ⟨hts _ (List.mem_append_right _ (List.mem_of_getElem? (i := 430) rfl)), List.forall_mem_cons.mpr ⟨hts _ (List.mem_append_right _ (List.mem_of_getElem? (i := 431) rfl)), List.forall_mem_cons.mpr ⟨hts _ (List.mem_append_right _ (List.mem_of_getElem? (i := 432) rfl)), List.forall_mem_cons.mpr ⟨hts _ (List.mem_append_right _ (List.mem_of_getElem? (i := 433) rfl)), List.forall_mem_cons.mpr ⟨hts _ (List.mem_append_right _ (List.mem_of_getElem? (i := 435) rfl)), List.forall_mem_cons.mpr ⟨hts _ (List.mem_append_right _ (List.mem_of_getElem? (i := 436) rfl)), List.forall_mem_cons.mpr ⟨hts _ (List.mem_append_right _ (List.mem_of_getElem? (i := 437) rfl)), List.forall_mem_cons.mpr ⟨hts _ (List.mem_append_right _ (List.mem_of_getElem? (i := 438) rfl)), List.forall_mem_cons.mpr ⟨hts _ (List.mem_append_right _ (List.mem_of_getElem? (i := 439) rfl)), List.forall_mem_cons.mpr ⟨hts _ (List.mem_append_right _ (List.mem_of_getElem? (i := 440) rfl)), fun _ h => absurd h List.not_mem_nil⟩⟩⟩⟩⟩⟩⟩⟩⟩⟩⟩⟩⟩⟩⟩⟩⟩⟩⟩⟩⟩⟩⟩⟩⟩⟩⟩⟩⟩⟩⟩⟩⟩⟩⟩⟩⟩⟩⟩⟩⟩⟩⟩⟩⟩⟩⟩⟩⟩⟩⟩⟩⟩⟩⟩⟩⟩⟩⟩⟩
  have h6 : ∀ w ∈ AW_6, w.before args s = true := by
    refine List.forall_mem_cons.mpr ⟨hts _ (List.mem_append_right _ (List.mem_of_getElem? (i := 441) rfl)), List.forall_mem_cons.mpr ⟨hts _ (List.mem_append_right _ (List.mem_of_getElem? (i := 443) rfl)), List.forall_mem_cons.mpr ⟨hts _ (List.mem_append_right _ (List.mem_of_getElem? (i := 444) rfl)), List.forall_mem_cons.mpr ⟨hts _ (List.mem_append_right _ (List.mem_of_getElem? (i := 445) rfl)), List.forall_mem_cons.mpr ⟨hts _ (List.mem_append_right _ (List.mem_of_getElem? (i := 446) rfl)), List.forall_mem_cons.mpr ⟨hts _ (List.mem_append_right _ (List.mem_of_getElem? (i := 447) rfl)), List.forall_mem_cons.mpr ⟨hts _ (List.mem_append_right _ (List.mem_of_getElem? (i := 448) rfl)), List.forall_mem_cons.mpr ⟨hts _ (List.mem_append_right _ (List.mem_of_getElem? (i := 449) rfl)), List.forall_mem_cons.mpr ⟨hts _ (List.mem_append_right _ (List.mem_of_getElem? (i := 450) rfl)), List.forall_mem_cons.mpr ⟨hts _ (List.mem_append_right _ (List.mem_of_getElem? (i := 452) rfl)), List.forall_mem_cons.mpr ⟨hts _ (List.mem_append_right _ (List.mem_of_getElem? (i := 453) rfl)), List.forall_mem_cons.mpr ⟨hts _ (List.mem_append_right _ (List.mem_of_getElem? (i := 454) rfl)), List.forall_mem_cons.mpr ⟨hts _ (List.mem_append_right _ (List.mem_of_getElem? (i := 456) rfl)), List.forall_mem_cons.mpr ⟨hts _ (List.mem_append_right _ (List.mem_of_getElem? (i := 457) rfl)), List.forall_mem_cons.mpr ⟨hts _ (List.mem_append_right _ (List.mem_of_getElem? (i := 458) rfl)), List.forall_mem_cons.mpr ⟨hts _ (List.mem_append_right _ (List.mem_of_getElem? (i := 459) rfl)), List.forall_mem_cons.mpr ⟨hts _ (List.mem_append_right _ (List.mem_of_getElem? (i := 460) rfl)), List.forall_mem_cons.mpr ⟨hts _ (List.mem_append_right _ (List.mem_of_getElem? (i := 461) rfl)), List.forall_mem_cons.mpr ⟨hts _ (List.mem_append_right _ (List.mem_of_getElem? (i := 462) rfl)), List.forall_mem_cons.mpr ⟨hts _ (List.mem_append_right _ (List.mem_of_getElem? (i := 463) rfl)), List.forall_mem_cons.mpr ⟨hts _ (List.mem_append_right _ (List.mem_of_getElem? (i := 464) rfl)), List.forall_mem_cons.mpr ⟨hts _ (List.mem_append_right _ (List.mem_of_getElem? (i := 465) rfl)), List.forall_mem_cons.mpr ⟨hts _ (List.mem_append_right _ (List.mem_of_getElem? (i := 466) rfl)), List.forall_mem_cons.mpr ⟨hts _ (List.mem_append_right _ (List.mem_of_getElem? (i := 468) rfl)), List.forall_mem_cons.mpr ⟨hts _ (List.mem_append_right _ (List.mem_of_getElem? (i := 469) rfl)), List.forall_mem_cons.mpr ⟨hts _ (List.mem_append_right _ (List.mem_of_getElem? (i := 470) rfl)), List.forall_mem_cons.mpr ⟨hts _ (List.mem_append_right _ (List.mem_of_getElem? (i := 471) rfl)), List.forall_mem_cons.mpr ⟨hts _ (List.mem_append_right _ (List.mem_of_getElem? (i := 473) rfl)), List.forall_mem_cons.mpr ⟨hts _ (List.mem_append_right _ (List.mem_of_getElem? (i := 474) rfl)), List.forall_mem_cons.mpr ⟨hts _ (List.mem_append_right _ (List.mem_of_getElem? (i := 475) rfl)), List.forall_mem_cons.mpr ⟨hts _ (List.mem_append_right _ (List.mem_of_getElem? (i := 476) rfl)), List.forall_mem_cons.mpr ⟨hts _ (List.mem_append_right _ (List.mem_of_getElem? (i := 477) rfl)), List.forall_mem_cons.mpr ⟨hts _ (List.mem_append_right _ (List.mem_of_getElem? (i := 478) rfl)), List.forall_mem_cons.mpr ⟨hts _ (List.mem_append_right _ (List.mem_of_getElem? (i := 479) rfl)), List.forall_mem_cons.mpr ⟨hts _ (List.mem_append_right _ (List.mem_of_getElem? (i := 480) rfl)), List.forall_mem_cons.mpr ⟨hts _ (List.mem_append_right _ (List.mem_of_getElem? (i := 482) rfl)), List.forall_mem_cons.mpr ⟨hts _ (List.mem_append_right _ (List.mem_of_getElem? (i := 483) rfl)), List.forall_mem_cons.mpr ⟨hts _ (List.mem_append_right _ (List.mem_of_getElem? (i := 484) rfl)), List.forall_mem_cons.mpr ⟨hts _ (List.mem_append_right _ (List.mem_of_getElem? (i := 485) rfl)), List.forall_mem_cons.mpr ⟨hts _ (List.mem_append_right _ (List.mem_of_getElem? (i := 486) rfl)), List.forall_mem_cons.mpr ⟨hts _ (List.mem_append_right _ (List.mem_of_getElem? (i := 487) rfl)), List.forall_mem_cons.mpr ⟨hts _ (List.mem_append_right _ (List.mem_of_getElem? (i := 488) rfl)), List.forall_mem_cons.mpr ⟨hts _ (List.mem_append_right _ (List.mem_of_getElem? (i := 490) rfl)), List.forall_mem_cons.mpr ⟨hts _ (List.mem_append_right _ (List.mem_of_getElem? (i := 491) rfl)), List.forall_mem_cons.mpr ⟨hts _ (List.mem_append_right _ (List.mem_of_getElem? (i := 492) rfl)), List.forall_mem_cons.mpr ⟨hts _ (List.mem_append_right _ (List.mem_of_getElem? (i := 493) rfl)), List.forall_mem_cons.mpr ⟨hts _ (List.mem_append_right _ (List.mem_of_getElem? (i := 494) rfl)), List.forall_mem_cons.mpr ⟨hts _ (List.mem_append_right _ (List.mem_of_getElem? (i := 495) rfl)), List.forall_mem_cons.mpr ⟨hts _ (List.mem_append_right _ (List.mem_of_getElem? (i := 496) rfl)), List.forall_mem_cons.mpr ⟨hts _ (List.mem_append_right _ (List.mem_of_getElem? (i := 497) rfl)), List.forall_mem_cons.mpr ⟨hts _ (List.mem_append_right _ (List.mem_of_getElem? (i := 498) rfl)), List.forall_mem_cons.mpr ⟨hts _ (List.mem_append_right _ (List.mem_of_getElem? (i := 499) rfl)), List.forall_mem_cons.mpr ⟨hts _ (List.mem_append_right _ (List.mem_of_getElem? (i := 500) rfl)), List.forall_mem_cons.mpr ⟨hts _ (List.mem_append_right _ (List.mem_of_getElem? (i := 501) rfl)), List.forall_mem_cons.mpr ⟨hts _ (List.mem_append_right _ (List.mem_of_getElem? (i := 503) rfl)), List.forall_mem_cons.mpr ⟨hts _ (List.mem_append_right _ (List.mem_of_getElem? (i := 504) rfl)), List.forall_mem_cons.mpr ⟨hts _ (List.mem_append_right _ (List.mem_of_getElem? (i := 505) rfl)), List.forall_mem_cons.mpr ⟨hts _ (List.mem_append_right _ (List.mem_of_getElem? (i := 506) rfl)), List.forall_mem_cons.mpr ⟨hts _ (List.mem_append_right _ (List.mem_of_getElem? (i := 507) rfl)), List.forall_mem_cons.mpr ⟨hts _ (List.mem_append_right _ (List.mem_of_getElem? (i := 508) rfl)), fun _ h => absurd h List.not_mem_nil⟩⟩⟩⟩⟩⟩⟩⟩⟩⟩⟩⟩⟩⟩⟩⟩⟩⟩⟩⟩⟩⟩⟩⟩⟩⟩⟩⟩⟩⟩⟩⟩⟩⟩⟩⟩⟩⟩⟩⟩⟩⟩⟩⟩⟩⟩⟩⟩⟩⟩⟩⟩⟩⟩⟩⟩⟩⟩⟩⟩
  have h7 : ∀ w ∈ AW_7, w.before args s = true := by
    refine List.forall_mem_cons.mpr ⟨hts _ (List.mem_append_right _ (List.mem_of_getElem? (i := 509) rfl)), List.forall_mem_cons.mpr ⟨hts _ (List.mem_append_right _ (List.mem_of_getElem? (i := 511) rfl)), List.forall_mem_cons.mpr ⟨hts _ (List.mem_append_right _ (List.mem_of_getElem? (i := 512) rfl)), List.forall_mem_cons.mpr ⟨hts _ (List.mem_append_right _ (List.mem_of_getElem? (i := 513) rfl)), List.forall_mem_cons.mpr ⟨hts _ (List.mem_append_right _ (List.mem_of_getElem? (i := 514) rfl)), List.forall_mem_cons.mpr ⟨hts _ (List.mem_append_right _ (List.mem_of_getElem? (i := 515) rfl)), List.forall_mem_cons.mpr ⟨hts _ (List.mem_append_right _ (List.mem_of_getElem? (i := 516) rfl)), List.forall_mem_cons.mpr ⟨hts _ (List.mem_append_right _ (List.mem_of_getElem? (i := 517) rfl)), List.forall_mem_cons.mpr ⟨hts _ (List.mem_append_right _ (List.mem_of_getElem? (i := 518) rfl)), List.forall_mem_cons.mpr ⟨hts _ (List.mem_append_right _ (List.mem_of_getElem? (i := 519) rfl)), List.forall_mem_cons.mpr ⟨hts _ (List.mem_append_right _ (List.mem_of_getElem? (i := 520) rfl)), List.forall_mem_cons.mpr ⟨hts _ (List.mem_append_right _ (List.mem_of_getElem? (i := 521) rfl)), List.forall_mem_cons.mpr ⟨hts _ (List.mem_append_right _ (List.mem_of_getElem? (i := 522) rfl)), List.forall_mem_cons.mpr ⟨hts _ (List.mem_append_right _ (List.mem_of_getElem? (i := 523) rfl)), List.forall_mem_cons.mpr ⟨hts _ (List.mem_append_right _ (List.mem_of_getElem? (i := 524) rfl)), List.forall_mem_cons.mpr ⟨hts _ (List.mem_append_right _ (List.mem_of_getElem? (i := 525) rfl)), List.forall_mem_cons.mpr ⟨hts _ (List.mem_append_right _ (List.mem_of_getElem? (i := 526) rfl)), List.forall_mem_cons.mpr ⟨hts _ (List.mem_append_right _ (List.mem_of_getElem? (i := 527) rfl)), List.forall_mem_cons.mpr ⟨hts _ (List.mem_append_right _ (List.mem_of_getElem? (i := 528) rfl)), List.forall_mem_cons.mpr ⟨hts _ (List.mem_append_right _ (List.mem_of_getElem? (i := 529) rfl)), List.forall_mem_cons.mpr ⟨hts _ (List.mem_append_right _ (List.mem_of_getElem? (i := 530) rfl)), List.forall_mem_cons.mpr ⟨hts _ (List.mem_append_right _ (List.mem_of_getElem? (i := 531) rfl)), List.forall_mem_cons.mpr ⟨hts _ (List.mem_append_right _ (List.mem_of_getElem? (i := 532) rfl)), List.forall_mem_cons.mpr ⟨hts _ (List.mem_append_right _ (List.mem_of_getElem? (i := 533) rfl)), List.forall_mem_cons.mpr ⟨hts _ (List.mem_append_right _ (List.mem_of_getElem? (i := 534) rfl)), List.forall_mem_cons.mpr ⟨hts _ (List.mem_append_right _ (List.mem_of_getElem? (i := 535) rfl)), List.forall_mem_cons.mpr ⟨hts _ (List.mem_append_right _ (List.mem_of_getElem? (i := 536) rfl)), List.forall_mem_cons.mpr ⟨hts _ (List.mem_append_right _ (List.mem_of_getElem? (i := 537) rfl)), List.forall_mem_cons.mpr ⟨hts _ (List.mem_append_right _ (List.mem_of_getElem? (i := 538) rfl)), List.forall_mem_cons.mpr ⟨hts _ (List.mem_append_right _ (List.mem_of_getElem? (i := 539) rfl)), List.forall_mem_cons.mpr ⟨hts _ (List.mem_append_right _ (List.mem_of_getElem? (i := 540) rfl)), List.forall_mem_cons.mpr ⟨hts _ (List.mem_append_right _ (List.mem_of_getElem? (i := 541) rfl)), List.forall_mem_cons.mpr ⟨hts _ (List.mem_append_right _ (List.mem_of_getElem? (i := 542) rfl)), List.forall_mem_cons.mpr ⟨hts _ (List.mem_append_right _ (List.mem_of_getElem? (i := 543) rfl)), List.forall_mem_cons.mpr ⟨hts _ (List.mem_append_right _ (List.mem_of_getElem? (i := 544) rfl)), List.forall_mem_cons.mpr ⟨hts _ (List.mem_append_right _ (List.mem_of_getElem? (i := 545) rfl)), List.forall_mem_cons.mpr ⟨hts _ (List.mem_append_right _ (List.mem_of_getElem? (i := 546) rfl)), List.forall_mem_cons.mpr ⟨hts _ (List.mem_append_right _ (List.mem_of_getElem? (i := 547) rfl)), List.forall_mem_cons.mpr ⟨hts _ (List.mem_append_right _ (List.mem_of_getElem? (i := 549) rfl)), List.forall_mem_cons.mpr ⟨hts _ (List.mem_append_right _ (List.mem_of_getElem? (i := 550) rfl)), List.forall_mem_cons.mpr ⟨hts _ (List.mem_append_right _ (List.mem_of_getElem? (i := 551) rfl)), List.forall_mem_cons.mpr ⟨hts _ (List.mem_append_right _ (List.mem_of_getElem? (i := 552) rfl)), List.forall_mem_cons.mpr ⟨hts _ (List.mem_append_right _ (List.mem_of_getElem? (i := 553) rfl)), List.forall_mem_cons.mpr ⟨hts _ (List.mem_append_right _ (List.mem_of_getElem? (i := 554) rfl)), List.forall_mem_cons.mpr ⟨hts _ (List.mem_append_right _ (List.mem_of_getElem? (i := 555) rfl)), List.forall_mem_cons.mpr ⟨hts _ (List.mem_append_right _ (List.mem_of_getElem? (i := 556) rfl)), List.forall_mem_cons.mpr ⟨hts _ (List.mem_append_right _ (List.mem_of_getElem? (i := 557) rfl)), List.forall_mem_cons.mpr ⟨hts _ (List.mem_append_right _ (List.mem_of_getElem? (i := 558) rfl)), List.forall_mem_cons.mpr ⟨hts _ (List.mem_append_right _ (List.mem_of_getElem? (i := 559) rfl)), List.forall_mem_cons.mpr ⟨hts _ (List.mem_append_right _ (List.mem_of_getElem? (i := 560) rfl)), List.forall_mem_cons.mpr ⟨hts _ (List.mem_append_right _ (List.mem_of_getElem? (i := 561) rfl)), List.forall_mem_cons.mpr ⟨hts _ (List.mem_append_right _ (List.mem_of_getElem? (i := 562) rfl)), List.forall_mem_cons.mpr ⟨hts _ (List.mem_append_right _ (List.mem_of_getElem? (i := 563) rfl)), List.forall_mem_cons.mpr ⟨hts _ (List.mem_append_right _ (List.mem_of_getElem? (i := 564) rfl)), List.forall_mem_cons.mpr ⟨hts _ (List.mem_append_right _ (List.mem_of_getElem? (i := 565) rfl)), List.forall_mem_cons.mpr ⟨hts _ (List.mem_append_right _ (List.mem_of_getElem? (i := 566) rfl)), List.forall_mem_cons.mpr ⟨hts _ (List.mem_append_right _ (List.mem_of_getElem? (i := 567) rfl)), List.forall_mem_cons.mpr ⟨hts _ (List.mem_append_right _ (List.mem_of_getElem? (i := 568) rfl)), List.forall_mem_cons.mpr ⟨hts _ (List.mem_append_right _ (List.mem_of_getElem? (i := 569) rfl)), List.forall_mem_cons.mpr ⟨hts _ (List.mem_append_right _ (List.mem_of_getElem? (i := 577) rfl)), fun _ h => absurd h List.not_mem_nil⟩⟩⟩⟩⟩⟩⟩⟩⟩⟩⟩⟩⟩⟩⟩⟩⟩⟩⟩⟩⟩⟩⟩⟩⟩⟩⟩⟩⟩⟩⟩⟩⟩⟩⟩⟩⟩⟩⟩⟩⟩⟩⟩⟩⟩⟩⟩⟩⟩⟩⟩⟩⟩⟩⟩⟩⟩⟩⟩⟩
  have h8 : ∀ w ∈ AW_8, w.before args s = true := by
    refine List.forall_mem_cons.mpr ⟨hts _ (List.mem_append_right _ (List.mem_of_getElem? (i := 578) rfl)), List.forall_mem_cons.mpr ⟨hts _ (List.mem_append_right _ (List.mem_of_getElem? (i := 579) rfl)), List.forall_mem_cons.mpr ⟨hts _ (List.mem_append_right _ (List.mem_of_getElem? (i := 580) rfl)), List.forall_mem_cons.mpr ⟨hts _ (List.mem_append_right _ (List.mem_of_getElem? (i := 581) rfl)), List.forall_mem_cons.mpr ⟨hts _ (List.mem_append_right _ (List.mem_of_getElem? (i := 582) rfl)), List.forall_mem_cons.mpr ⟨hts _ (List.mem_append_right _ (List.mem_of_getElem? (i := 583) rfl)), List.forall_mem_cons.mpr ⟨hts _ (List.mem_append_right _ (List.mem_of_getElem? (i := 584) rfl)), List.forall_mem_cons.mpr ⟨hts _ (List.mem_append_right _ (List.mem_of_getElem? (i := 585) rfl)), List.forall_mem_cons.mpr ⟨hts _ (List.mem_append_right _ (List.mem_of_getElem? (i := 586) rfl)), List.forall_mem_cons.mpr ⟨hts _ (List.mem_append_right _ (List.mem_of_getElem? (i := 587) rfl)), List.forall_mem_cons.mpr ⟨hts _ (List.mem_append_right _ (List.mem_of_getElem? (i := 588) rfl)), List.forall_mem_cons.mpr ⟨hts _ (List.mem_append_right _ (List.mem_of_getElem? (i := 589) rfl)), List.forall_mem_cons.mpr ⟨hts _ (List.mem_append_right _ (List.mem_of_getElem? (i := 591) rfl)), List.forall_mem_cons.mpr ⟨hts _ (List.mem_append_right _ (List.mem_of_getElem? (i := 592) rfl)), List.forall_mem_cons.mpr ⟨hts _ (List.mem_append_right _ (List.mem_of_getElem? (i := 593) rfl)), List.forall_mem_cons.mpr ⟨hts _ (List.mem_append_right _ (List.mem_of_getElem? (i := 594) rfl)), List.forall_mem_cons.mpr ⟨hts _ (List.mem_append_right _ (List.mem_of_getElem? (i := 596) rfl)), List.forall_mem_cons.mpr ⟨hts _ (List.mem_append_right _ (List.mem_of_getElem? (i := 598) rfl)), List.forall_mem_cons.mpr ⟨hts _ (List.mem_append_right _ (List.mem_of_getElem? (i := 599) rfl)), List.forall_mem_cons.mpr ⟨hts _ (List.mem_append_right _ (List.mem_of_getElem? (i := 601) rfl)), List.forall_mem_cons.mpr ⟨hts _ (List.mem_append_right _ (List.mem_of_getElem? (i := 602) rfl)), List.forall_mem_cons.mpr ⟨hts _ (List.mem_append_right _ (List.mem_of_getElem? (i := 604) rfl)), List.forall_mem_cons.mpr ⟨hts _ (List.mem_append_right _ (List.mem_of_getElem? (i := 606) rfl)), List.forall_mem_cons.mpr ⟨hts _ (List.mem_append_right _ (List.mem_of_getElem? (i := 607) rfl)), List.forall_mem_cons.mpr ⟨hts _ (List.mem_append_right _ (List.mem_of_getElem? (i := 608) rfl)), List.forall_mem_cons.mpr ⟨hts _ (List.mem_append_right _ (List.mem_of_getElem? (i := 610) rfl)), List.forall_mem_cons.mpr ⟨hts _ (List.mem_append_right _ (List.mem_of_getElem? (i := 611) rfl)), List.forall_mem_cons.mpr ⟨hts _ (List.mem_append_right _ (List.mem_of_getElem? (i := 612) rfl)), List.forall_mem_cons.mpr ⟨hts _ (List.mem_append_right _ (List.mem_of_getElem? (i := 613) rfl)), List.forall_mem_cons.mpr ⟨hts _ (List.mem_append_right _ (List.mem_of_getElem? (i := 614) rfl)), List.forall_mem_cons.mpr ⟨hts _ (List.mem_append_right _ (List.mem_of_getElem? (i := 615) rfl)), List.forall_mem_cons.mpr ⟨hts _ (List.mem_append_right _ (List.mem_of_getElem? (i := 616) rfl)), List.forall_mem_cons.mpr ⟨hts _ (List.mem_append_right _ (List.mem_of_getElem? (i := 617) rfl)), List.forall_mem_cons.mpr ⟨hts _ (List.mem_append_right _ (List.mem_of_getElem? (i := 618) rfl)), List.forall_mem_cons.mpr ⟨hts _ (List.mem_append_right _ (List.mem_of_getElem? (i := 619) rfl)), List.forall_mem_cons.mpr ⟨hts _ (List.mem_append_right _ (List.mem_of_getElem? (i := 620) rfl)), List.forall_mem_cons.mpr ⟨hts _ (List.mem_append_right _ (List.mem_of_getElem? (i := 621) rfl)), List.forall_mem_cons.mpr ⟨hts _ (List.mem_append_right _ (List.mem_of_getElem? (i := 623) rfl)), List.forall_mem_cons.mpr ⟨hts _ (List.mem_append_right _ (List.mem_of_getElem? (i := 624) rfl)), List.forall_mem_cons.mpr ⟨hts _ (List.mem_append_right _ (List.mem_of_getElem? (i := 625) rfl)), List.forall_mem_cons.mpr ⟨hts _ (List.mem_append_right _ (List.mem_of_getElem? (i := 626) rfl)), List.forall_mem_cons.mpr ⟨hts _ (List.mem_append_right _ (List.mem_of_getElem? (i := 631) rfl)), List.forall_mem_cons.mpr ⟨hts _ (List.mem_append_right _ (List.mem_of_getElem? (i := 635) rfl)), List.forall_mem_cons.mpr ⟨hts _ (List.mem_append_right _ (List.mem_of_getElem? (i := 636) rfl)), List.forall_mem_cons.mpr ⟨hts _ (List.mem_append_right _ (List.mem_of_getElem? (i := 637) rfl)), List.forall_mem_cons.mpr ⟨hts _ (List.mem_append_right _ (List.mem_of_getElem? (i := 639) rfl)), List.forall_mem_cons.mpr ⟨hts _ (List.mem_append_right _ (List.mem_of_getElem? (i := 640) rfl)), List.forall_mem_cons.mpr ⟨hts _ (List.mem_append_right _ (List.mem_of_getElem? (i := 641) rfl)), List.forall_mem_cons.mpr ⟨hts _ (List.mem_append_right _ (List.mem_of_getElem? (i := 642) rfl)), List.forall_mem_cons.mpr ⟨hts _ (List.mem_append_right _ (List.mem_of_getElem? (i := 643) rfl)), List.forall_mem_cons.mpr ⟨hts _ (List.mem_append_right _ (List.mem_of_getElem? (i := 644) rfl)), List.forall_mem_cons.mpr ⟨hts _ (List.mem_append_right _ (List.mem_of_getElem? (i := 646) rfl)), List.forall_mem_cons.mpr ⟨hts _ (List.mem_append_right _ (List.mem_of_getElem? (i := 647) rfl)), List.forall_mem_cons.mpr ⟨hts _ (List.mem_append_right _ (List.mem_of_getElem? (i := 648) rfl)), List.forall_mem_cons.mpr ⟨hts _ (List.mem_append_right _ (List.mem_of_getElem? (i := 649) rfl)), List.forall_mem_cons.mpr ⟨hts _ (List.mem_append_right _ (List.mem_of_getElem? (i := 650) rfl)), List.forall_mem_cons.mpr ⟨hts _ (List.mem_append_right _ (List.mem_of_getElem? (i := 652) rfl)), List.forall_mem_cons.mpr ⟨hts _ (List.mem_append_right _ (List.mem_of_getElem? (i := 653) rfl)), List.forall_mem_cons.mpr ⟨hts _ (List.mem_append_right _ (List.mem_of_getElem? (i := 654) rfl)), List.forall_mem_cons.mpr ⟨hts _ (List.mem_append_right _ (List.mem_of_getElem? (i := 655) rfl)), fun _ h => absurd h List.not_mem_nil⟩⟩⟩⟩⟩⟩⟩⟩⟩⟩⟩⟩⟩⟩⟩⟩⟩⟩⟩⟩⟩⟩⟩⟩⟩⟩⟩⟩⟩⟩⟩⟩⟩⟩⟩⟩⟩⟩⟩⟩⟩⟩⟩⟩⟩⟩⟩⟩⟩⟩⟩⟩⟩⟩⟩⟩⟩⟩⟩⟩
  have h9 : ∀ w ∈ AW_9, w.before args s = true := by
    refine List.forall_mem_cons.mpr ⟨hts _ (List.mem_append_right _ (List.mem_of_getElem? (i := 656) rfl)), List.forall_mem_cons.mpr ⟨hts _ (List.mem_append_right _ (List.mem_of_getElem? (i := 657) rfl)), List.forall_mem_cons.mpr ⟨hts _ (List.mem_append_right _ (List.mem_of_getElem? (i := 658) rfl)), List.forall_mem_cons.mpr ⟨hts _ (List.mem_append_right _ (List.mem_of_getElem? (i := 659) rfl)), List.forall_mem_cons.mpr ⟨hts _ (List.mem_append_right _ (List.mem_of_getElem? (i := 660) rfl)), List.forall_mem_cons.mpr ⟨hts _ (List.mem_append_right _ (List.mem_of_getElem? (i := 662) rfl)), List.forall_mem_cons.mpr ⟨hts _ (List.mem_append_right _ (List.mem_of_getElem? (i := 663) rfl)), List.forall_mem_cons.mpr ⟨hts _ (List.mem_append_right _ (List.mem_of_getElem? (i := 664) rfl)), List.forall_mem_cons.mpr ⟨hts _ (List.mem_append_right _ (List.mem_of_getElem? (i := 665) rfl)), List.forall_mem_cons.mpr ⟨hts _ (List.mem_append_right _ (List.mem_of_getElem? (i := 666) rfl)), List.forall_mem_cons.mpr ⟨hts _ (List.mem_append_right _ (List.mem_of_getElem? (i := 667) rfl)), List.forall_mem_cons.mpr ⟨hts _ (List.mem_append_right _ (List.mem_of_getElem? (i := 668) rfl)), List.forall_mem_cons.mpr ⟨hts _ (List.mem_append_right _ (List.mem_of_getElem? (i := 669) rfl)), List.forall_mem_cons.mpr ⟨hts _ (List.mem_append_right _ (List.mem_of_getElem? (i := 670) rfl)), List.forall_mem_cons.mpr ⟨hts _ (List.mem_append_right _ (List.mem_of_getElem? (i := 671) rfl)), List.forall_mem_cons.mpr ⟨hts _ (List.mem_append_right _ (List.mem_of_getElem? (i := 672) rfl)), List.forall_mem_cons.mpr ⟨hts _ (List.mem_append_right _ (List.mem_of_getElem? (i := 673) rfl)), List.forall_mem_cons.mpr ⟨hts _ (List.mem_append_right _ (List.mem_of_getElem? (i := 674) rfl)), List.forall_mem_cons.mpr ⟨hts _ (List.mem_append_right _ (List.mem_of_getElem? (i := 676) rfl)), List.forall_mem_cons.mpr ⟨hts _ (List.mem_append_right _ (List.mem_of_getElem? (i := 677) rfl)), List.forall_mem_cons.mpr ⟨hts _ (List.mem_append_right _ (List.mem_of_getElem? (i := 678) rfl)), List.forall_mem_cons.mpr ⟨hts _ (List.mem_append_right _ (List.mem_of_getElem? (i := 679) rfl)), List.forall_mem_cons.mpr ⟨hts _ (List.mem_append_right _ (List.mem_of_getElem? (i := 680) rfl)), List.forall_mem_cons.mpr ⟨hts _ (List.mem_append_right _ (List.mem_of_getElem? (i := 681) rfl)), List.forall_mem_cons.mpr ⟨hts _ (List.mem_append_right _ (List.mem_of_getElem? (i := 683) rfl)), List.forall_mem_cons.mpr ⟨hts _ (List.mem_append_right _ (List.mem_of_getElem? (i := 684) rfl)), List.forall_mem_cons.mpr ⟨hts _ (List.mem_append_right _ (List.mem_of_getElem? (i := 685) rfl)), List.forall_mem_cons.mpr ⟨hts _ (List.mem_append_right _ (List.mem_of_getElem? (i := 686) rfl)), List.forall_mem_cons.mpr ⟨hts _ (List.mem_append_right _ (List.mem_of_getElem? (i := 687) rfl)), List.forall_mem_cons.mpr ⟨hts _ (List.mem_append_right _ (List.mem_of_getElem? (i := 689) rfl)), List.forall_mem_cons.mpr ⟨hts _ (List.mem_append_right _ (List.mem_of_getElem? (i := 692) rfl)), List.forall_mem_cons.mpr ⟨hts _ (List.mem_append_right _ (List.mem_of_getElem? (i := 693) rfl)), List.forall_mem_cons.mpr ⟨hts _ (List.mem_append_right _ (List.mem_of_getElem? (i := 694) rfl)), List.forall_mem_cons.mpr ⟨hts _ (List.mem_append_right _ (List.mem_of_getElem? (i := 695) rfl)), List.forall_mem_cons.mpr ⟨hts _ (List.mem_append_right _ (List.mem_of_getElem? (i := 696) rfl)), List.forall_mem_cons.mpr ⟨hts _ (List.mem_append_right _ (List.mem_of_getElem? (i := 697) rfl)), List.forall_mem_cons.mpr ⟨hts _ (List.mem_append_right _ (List.mem_of_getElem? (i := 698) rfl)), List.forall_mem_cons.mpr ⟨hts _ (List.mem_append_right _ (List.mem_of_getElem? (i := 699) rfl)), List.forall_mem_cons.mpr ⟨hts _ (List.mem_append_right _ (List.mem_of_getElem? (i := 700) rfl)), List.forall_mem_cons.mpr ⟨hts _ (List.mem_append_right _ (List.mem_of_getElem? (i := 701) rfl)), List.forall_mem_cons.mpr ⟨hts _ (List.mem_append_right _ (List.mem_of_getElem? (i := 702) rfl)), List.forall_mem_cons.mpr ⟨hts _ (List.mem_append_right _ (List.mem_of_getElem? (i := 703) rfl)), List.forall_mem_cons.mpr ⟨hts _ (List.mem_append_right _ (List.mem_of_getElem? (i := 705) rfl)), List.forall_mem_cons.mpr ⟨hts _ (List.mem_append_right _ (List.mem_of_getElem? (i := 706) rfl)), List.forall_mem_cons.mpr ⟨hts _ (List.mem_append_right _ (List.mem_of_getElem? (i := 707) rfl)), List.forall_mem_cons.mpr ⟨hts _ (List.mem_append_right _ (List.mem_of_getElem? (i := 708) rfl)), List.forall_mem_cons.mpr ⟨hts _ (List.mem_append_right _ (List.mem_of_getElem? (i := 709) rfl)), List.forall_mem_cons.mpr ⟨hts _ (List.mem_append_right _ (List.mem_of_getElem? (i := 710) rfl)), List.forall_mem_cons.mpr ⟨hts _ (List.mem_append_right _ (List.mem_of_getElem? (i := 711) rfl)), List.forall_mem_cons.mpr ⟨hts _ (List.mem_append_right _ (List.mem_of_getElem? (i := 712) rfl)), List.forall_mem_cons.mpr ⟨hts _ (List.mem_append_right _ (List.mem_of_getElem? (i := 713) rfl)), List.forall_mem_cons.mpr ⟨hts _ (List.mem_append_right _ (List.mem_of_getElem? (i := 714) rfl)), List.forall_mem_cons.mpr ⟨hts _ (List.mem_append_right _ (List.mem_of_getElem? (i := 715) rfl)), List.forall_mem_cons.mpr ⟨hts _ (List.mem_append_right _ (List.mem_of_getElem? (i := 716) rfl)), List.forall_mem_cons.mpr ⟨hts _ (List.mem_append_right _ (List.mem_of_getElem? (i := 717) rfl)), List.forall_mem_cons.mpr ⟨hts _ (List.mem_append_right _ (List.mem_of_getElem? (i := 718) rfl)), List.forall_mem_cons.mpr ⟨hts _ (List.mem_append_right _ (List.mem_of_getElem? (i := 720) rfl)), List.forall_mem_cons.mpr ⟨hts _ (List.mem_append_right _ (List.mem_of_getElem? (i := 721) rfl)), List.forall_mem_cons.mpr ⟨hts _ (List.mem_append_right _ (List.mem_of_getElem? (i := 722) rfl)), List.forall_mem_cons.mpr ⟨hts _ (List.mem_append_right _ (List.mem_of_getElem? (i := 723) rfl)), fun _ h => absurd h List.not_mem_nil⟩⟩⟩⟩⟩⟩⟩⟩⟩⟩⟩⟩⟩⟩⟩⟩⟩⟩⟩⟩⟩⟩⟩⟩⟩⟩⟩⟩⟩⟩⟩⟩⟩⟩⟩⟩⟩⟩⟩⟩⟩⟩⟩⟩⟩⟩⟩⟩⟩⟩⟩⟩⟩⟩⟩⟩⟩⟩⟩⟩
  have h10 : ∀ w ∈ AW_10, w.before args s = true := by
    refine List.forall_mem_cons.mpr ⟨hts _ (List.mem_append_right _ (List.mem_of_getElem? (i := 724) rfl)), List.forall_mem_cons.mpr ⟨hts _ (List.mem_append_right _ (List.mem_of_getElem? (i := 725) rfl)), List.forall_mem_cons.mpr ⟨hts _ (List.mem_append_right _ (List.mem_of_getElem? (i := 726) rfl)), List.forall_mem_cons.mpr ⟨hts _ (List.mem_append_right _ (List.mem_of_getElem? (i := 728) rfl)), List.forall_mem_cons.mpr ⟨hts _ (List.mem_append_right _ (List.mem_of_getElem? (i := 729) rfl)), List.forall_mem_cons.mpr ⟨hts _ (List.mem_append_right _ (List.mem_of_getElem? (i := 730) rfl)), List.forall_mem_cons.mpr ⟨hts _ (List.mem_append_right _ (List.mem_of_getElem? (i := 731) rfl)), List.forall_mem_cons.mpr ⟨hts _ (List.mem_append_right _ (List.mem_of_getElem? (i := 732) rfl)), List.forall_mem_cons.mpr ⟨hts _ (List.mem_append_right _ (List.mem_of_getElem? (i := 734) rfl)), List.forall_mem_cons.mpr ⟨hts _ (List.mem_append_right _ (List.mem_of_getElem? (i := 735) rfl)), List.forall_mem_cons.mpr ⟨hts _ (List.mem_append_right _ (List.mem_of_getElem? (i := 736) rfl)), List.forall_mem_cons.mpr ⟨hts _ (List.mem_append_right _ (List.mem_of_getElem? (i := 737) rfl)), List.forall_mem_cons.mpr ⟨hts _ (List.mem_append_right _ (List.mem_of_getElem? (i := 738) rfl)), List.forall_mem_cons.mpr ⟨hts _ (List.mem_append_right _ (List.mem_of_getElem? (i := 739) rfl)), List.forall_mem_cons.mpr ⟨hts _ (List.mem_append_right _ (List.mem_of_getElem? (i := 740) rfl)), List.forall_mem_cons.mpr ⟨hts _ (List.mem_append_right _ (List.mem_of_getElem? (i := 741) rfl)), List.forall_mem_cons.mpr ⟨hts _ (List.mem_append_right _ (List.mem_of_getElem? (i := 742) rfl)), List.forall_mem_cons.mpr ⟨hts _ (List.mem_append_right _ (List.mem_of_getElem? (i := 743) rfl)), List.forall_mem_cons.mpr ⟨hts _ (List.mem_append_right _ (List.mem_of_getElem? (i := 744) rfl)), List.forall_mem_cons.mpr ⟨hts _ (List.mem_append_right _ (List.mem_of_getElem? (i := 745) rfl)), List.forall_mem_cons.mpr ⟨hts _ (List.mem_append_right _ (List.mem_of_getElem? (i := 746) rfl)), List.forall_mem_cons.mpr ⟨hts _ (List.mem_append_right _ (List.mem_of_getElem? (i := 747) rfl)), List.forall_mem_cons.mpr ⟨hts _ (List.mem_append_right _ (List.mem_of_getElem? (i := 749) rfl)), List.forall_mem_cons.mpr ⟨hts _ (List.mem_append_right _ (List.mem_of_getElem? (i := 750) rfl)), List.forall_mem_cons.mpr ⟨hts _ (List.mem_append_right _ (List.mem_of_getElem? (i := 751) rfl)), List.forall_mem_cons.mpr ⟨hts _ (List.mem_append_right _ (List.mem_of_getElem? (i := 752) rfl)), List.forall_mem_cons.mpr ⟨hts _ (List.mem_append_right _ (List.mem_of_getElem? (i := 753) rfl)), List.forall_mem_cons.mpr ⟨hts _ (List.mem_append_right _ (List.mem_of_getElem? (i := 754) rfl)), List.forall_mem_cons.mpr ⟨hts _ (List.mem_append_right _ (List.mem_of_getElem? (i := 755) rfl)), List.forall_mem_cons.mpr ⟨hts _ (List.mem_append_right _ (List.mem_of_getElem? (i := 756) rfl)), List.forall_mem_cons.mpr ⟨hts _ (List.mem_append_right _ (List.mem_of_getElem? (i := 757) rfl)), List.forall_mem_cons.mpr ⟨hts _ (List.mem_append_right _ (List.mem_of_getElem? (i := 758) rfl)), List.forall_mem_cons.mpr ⟨hts _ (List.mem_append_right _ (List.mem_of_getElem? (i := 759) rfl)), List.forall_mem_cons.mpr ⟨hts _ (List.mem_append_right _ (List.mem_of_getElem? (i := 760) rfl)), List.forall_mem_cons.mpr ⟨hts _ (List.mem_append_right _ (List.mem_of_getElem? (i := 761) rfl)), List.forall_mem_cons.mpr ⟨hts _ (List.mem_append_right _ (List.mem_of_getElem? (i := 762) rfl)), List.forall_mem_cons.mpr ⟨hts _ (List.mem_append_right _ (List.mem_of_getElem? (i := 763) rfl)), List.forall_mem_cons.mpr ⟨hts _ (List.mem_append_right _ (List.mem_of_getElem? (i := 764) rfl)), List.forall_mem_cons.mpr ⟨hts _ (List.mem_append_right _ (List.mem_of_getElem? (i := 765) rfl)), List.forall_mem_cons.mpr ⟨hts _ (List.mem_append_right _ (List.mem_of_getElem? (i := 766) rfl)), List.forall_mem_cons.mpr ⟨hts _ (List.mem_append_right _ (List.mem_of_getElem? (i := 767) rfl)), List.forall_mem_cons.mpr ⟨hts _ (List.mem_append_right _ (List.mem_of_getElem? (i := 768) rfl)), List.forall_mem_cons.mpr ⟨hts _ (List.mem_append_right _ (List.mem_of_getElem? (i := 769) rfl)), List.forall_mem_cons.mpr ⟨hts _ (List.mem_append_right _ (List.mem_of_getElem? (i := 770) rfl)), List.forall_mem_cons.mpr ⟨hts _ (List.mem_append_right _ (List.mem_of_getElem? (i := 771) rfl)), List.forall_mem_cons.mpr ⟨hts _ (List.mem_append_right _ (List.mem_of_getElem? (i := 772) rfl)), List.forall_mem_cons.mpr ⟨hts _ (List.mem_append_right _ (List.mem_of_getElem? (i := 773) rfl)), List.forall_mem_cons.mpr ⟨hts _ (List.mem_append_right _ (List.mem_of_getElem? (i := 774) rfl)), List.forall_mem_cons.mpr ⟨hts _ (List.mem_append_right _ (List.mem_of_getElem? (i := 775) rfl)), List.forall_mem_cons.mpr ⟨hts _ (List.mem_append_right _ (List.mem_of_getElem? (i := 776) rfl)), List.forall_mem_cons.mpr ⟨hts _ (List.mem_append_right _ (List.mem_of_getElem? (i := 777) rfl)), List.forall_mem_cons.mpr ⟨hts _ (List.mem_append_right _ (List.mem_of_getElem? (i := 778) rfl)), List.forall_mem_cons.mpr ⟨hts _ (List.mem_append_right _ (List.mem_of_getElem? (i := 779) rfl)), List.forall_mem_cons.mpr ⟨hts _ (List.mem_append_right _ (List.mem_of_getElem? (i := 780) rfl)), List.forall_mem_cons.mpr ⟨hts _ (List.mem_append_right _ (List.mem_of_getElem? (i := 781) rfl)), List.forall_mem_cons.mpr ⟨hts _ (List.mem_append_right _ (List.mem_of_getElem? (i := 782) rfl)), List.forall_mem_cons.mpr ⟨hts _ (List.mem_append_right _ (List.mem_of_getElem? (i := 783) rfl)), List.forall_mem_cons.mpr ⟨hts _ (List.mem_append_right _ (List.mem_of_getElem? (i := 784) rfl)), List.forall_mem_cons.mpr ⟨hts _ (List.mem_append_right _ (List.mem_of_getElem? (i := 785) rfl)), List.forall_mem_cons.mpr ⟨hts _ (List.mem_append_right _ (List.mem_of_getElem? (i := 786) rfl)), fun _ h => absurd h List.not_mem_nil⟩⟩⟩⟩⟩⟩⟩⟩⟩⟩⟩⟩⟩⟩⟩⟩⟩⟩⟩⟩⟩⟩⟩⟩⟩⟩⟩⟩⟩⟩⟩⟩⟩⟩⟩⟩⟩⟩⟩⟩⟩⟩⟩⟩⟩⟩⟩⟩⟩⟩⟩⟩⟩⟩⟩⟩⟩⟩⟩⟩
  have h11 : ∀ w ∈ AW_11, w.before args s = true := by
    refine List.forall_mem_cons.mpr ⟨hts _ (List.mem_append_right _ (List.mem_of_getElem? (i := 788) rfl)), List.forall_mem_cons.mpr ⟨hts _ (List.mem_append_right _ (List.mem_of_getElem? (i := 790) rfl)), List.forall_mem_cons.mpr ⟨hts _ (List.mem_append_right _ (List.mem_of_getElem? (i := 792) rfl)), List.forall_mem_cons.mpr ⟨hts _ (List.mem_append_right _ (List.mem_of_getElem? (i := 794) rfl)), List.forall_mem_cons.mpr ⟨hts _ (List.mem_append_right _ (List.mem_of_getElem? (i := 796) rfl)), List.forall_mem_cons.mpr ⟨hts _ (List.mem_append_right _ (List.mem_of_getElem? (i := 798) rfl)), List.forall_mem_cons.mpr ⟨hts _ (List.mem_append_right _ (List.mem_of_getElem? (i := 800) rfl)), List.forall_mem_cons.mpr ⟨hts _ (List.mem_append_right _ (List.mem_of_getElem? (i := 802) rfl)), List.forall_mem_cons.mpr ⟨hts _ (List.mem_append_right _ (List.mem_of_getElem? (i := 804) rfl)), List.forall_mem_cons.mpr ⟨hts _ (List.mem_append_right _ (List.mem_of_getElem? (i := 806) rfl)), List.forall_mem_cons.mpr ⟨hts _ (List.mem_append_right _ (List.mem_of_getElem? (i := 808) rfl)), List.forall_mem_cons.mpr ⟨hts _ (List.mem_append_right _ (List.mem_of_getElem? (i := 810) rfl)), List.forall_mem_cons.mpr ⟨hts _ (List.mem_append_right _ (List.mem_of_getElem? (i := 812) rfl)), List.forall_mem_cons.mpr ⟨hts _ (List.mem_append_right _ (List.mem_of_getElem? (i := 814) rfl)), List.forall_mem_cons.mpr ⟨hts _ (List.mem_append_right _ (List.mem_of_getElem? (i := 816) rfl)), List.forall_mem_cons.mpr ⟨hts _ (List.mem_append_right _ (List.mem_of_getElem? (i := 818) rfl)), List.forall_mem_cons.mpr ⟨hts _ (List.mem_append_right _ (List.mem_of_getElem? (i := 820) rfl)), List.forall_mem_cons.mpr ⟨hts _ (List.mem_append_right _ (List.mem_of_getElem? (i := 822) rfl)), List.forall_mem_cons.mpr ⟨hts _ (List.mem_append_right _ (List.mem_of_getElem? (i := 824) rfl)), List.forall_mem_cons.mpr ⟨hts _ (List.mem_append_right _ (List.mem_of_getElem? (i := 826) rfl)), List.forall_mem_cons.mpr ⟨hts _ (List.mem_append_right _ (List.mem_of_getElem? (i := 828) rfl)), List.forall_mem_cons.mpr ⟨hts _ (List.mem_append_right _ (List.mem_of_getElem? (i := 830) rfl)), List.forall_mem_cons.mpr ⟨hts _ (List.mem_append_right _ (List.mem_of_getElem? (i := 832) rfl)), List.forall_mem_cons.mpr ⟨hts _ (List.mem_append_right _ (List.mem_of_getElem? (i := 834) rfl)), List.forall_mem_cons.mpr ⟨hts _ (List.mem_append_right _ (List.mem_of_getElem? (i := 836) rfl)), List.forall_mem_cons.mpr ⟨hts _ (List.mem_append_right _ (List.mem_of_getElem? (i := 838) rfl)), List.forall_mem_cons.mpr ⟨hts _ (List.mem_append_right _ (List.mem_of_getElem? (i := 840) rfl)), List.forall_mem_cons.mpr ⟨hts _ (List.mem_append_right _ (List.mem_of_getElem? (i := 842) rfl)), List.forall_mem_cons.mpr ⟨hts _ (List.mem_append_right _ (List.mem_of_getElem? (i := 844) rfl)), List.forall_mem_cons.mpr ⟨hts _ (List.mem_append_right _ (List.mem_of_getElem? (i := 846) rfl)), List.forall_mem_cons.mpr ⟨hts _ (List.mem_append_right _ (List.mem_of_getElem? (i := 849) rfl)), List.forall_mem_cons.mpr ⟨hts _ (List.mem_append_right _ (List.mem_of_getElem? (i := 850) rfl)), List.forall_mem_cons.mpr ⟨hts _ (List.mem_append_right _ (List.mem_of_getElem? (i := 851) rfl)), List.forall_mem_cons.mpr ⟨hts _ (List.mem_append_right _ (List.mem_of_getElem? (i := 852) rfl)), List.forall_mem_cons.mpr ⟨hts _ (List.mem_append_right _ (List.mem_of_getElem? (i := 853) rfl)), List.forall_mem_cons.mpr ⟨hts _ (List.mem_append_right _ (List.mem_of_getElem? (i := 854) rfl)), List.forall_mem_cons.mpr ⟨hts _ (List.mem_append_right _ (List.mem_of_getElem? (i := 855) rfl)), List.forall_mem_cons.mpr ⟨hts _ (List.mem_append_right _ (List.mem_of_getElem? (i := 856) rfl)), List.forall_mem_cons.mpr ⟨hts _ (List.mem_append_right _ (List.mem_of_getElem? (i := 857) rfl)), List.forall_mem_cons.mpr ⟨hts _ (List.mem_append_right _ (List.mem_of_getElem? (i := 858) rfl)), List.forall_mem_cons.mpr ⟨hts _ (List.mem_append_right _ (List.mem_of_getElem? (i := 859) rfl)), List.forall_mem_cons.mpr ⟨hts _ (List.mem_append_right _ (List.mem_of_getElem? (i := 860) rfl)), List.forall_mem_cons.mpr ⟨hts _ (List.mem_append_right _ (List.mem_of_getElem? (i := 861) rfl)), List.forall_mem_cons.mpr ⟨hts _ (List.mem_append_right _ (List.mem_of_getElem? (i := 862) rfl)), List.forall_mem_cons.mpr ⟨hts _ (List.mem_append_right _ (List.mem_of_getElem? (i := 863) rfl)), List.forall_mem_cons.mpr ⟨hts _ (List.mem_append_right _ (List.mem_of_getElem? (i := 864) rfl)), List.forall_mem_cons.mpr ⟨hts _ (List.mem_append_right _ (List.mem_of_getElem? (i := 866) rfl)), List.forall_mem_cons.mpr ⟨hts _ (List.mem_append_right _ (List.mem_of_getElem? (i := 867) rfl)), List.forall_mem_cons.mpr ⟨hts _ (List.mem_append_right _ (List.mem_of_getElem? (i := 868) rfl)), List.forall_mem_cons.mpr ⟨hts _ (List.mem_append_right _ (List.mem_of_getElem? (i := 870) rfl)), List.forall_mem_cons.mpr ⟨hts _ (List.mem_append_right _ (List.mem_of_getElem? (i := 871) rfl)), List.forall_mem_cons.mpr ⟨hts _ (List.mem_append_right _ (List.mem_of_getElem? (i := 872) rfl)), List.forall_mem_cons.mpr ⟨hts _ (List.mem_append_right _ (List.mem_of_getElem? (i := 874) rfl)), List.forall_mem_cons.mpr ⟨hts _ (List.mem_append_right _ (List.mem_of_getElem? (i := 875) rfl)), List.forall_mem_cons.mpr ⟨hts _ (List.mem_append_right _ (List.mem_of_getElem? (i := 876) rfl)), List.forall_mem_cons.mpr ⟨hts _ (List.mem_append_right _ (List.mem_of_getElem? (i := 878) rfl)), List.forall_mem_cons.mpr ⟨hts _ (List.mem_append_right _ (List.mem_of_getElem? (i := 879) rfl)), List.forall_mem_cons.mpr ⟨hts _ (List.mem_append_right _ (List.mem_of_getElem? (i := 880) rfl)), List.forall_mem_cons.mpr ⟨hts _ (List.mem_append_right _ (List.mem_of_getElem? (i := 881) rfl)), List.forall_mem_cons.mpr ⟨hts _ (List.mem_append_right _ (List.mem_of_getElem? (i := 882) rfl)), fun _ h => absurd h List.not_mem_nil⟩⟩⟩⟩⟩⟩⟩⟩⟩⟩⟩⟩⟩⟩⟩⟩⟩⟩⟩⟩⟩⟩⟩⟩⟩⟩⟩⟩⟩⟩⟩⟩⟩⟩⟩⟩⟩⟩⟩⟩⟩⟩⟩⟩⟩⟩⟩⟩⟩⟩⟩⟩⟩⟩⟩⟩⟩⟩⟩⟩
  have h12 : ∀ w ∈ AW_12, w.before args s = true := by
    refine List.forall_mem_cons.mpr ⟨hts _ (List.mem_append_right _ (List.mem_of_getElem? (i := 883) rfl)), List.forall_mem_cons.mpr ⟨hts _ (List.mem_append_right _ (List.mem_of_getElem? (i := 884) rfl)), List.forall_mem_cons.mpr ⟨hts _ (List.mem_append_right _ (List.mem_of_getElem? (i := 886) rfl)), List.forall_mem_cons.mpr ⟨hts _ (List.mem_append_right _ (List.mem_of_getElem? (i := 887) rfl)), List.forall_mem_cons.mpr ⟨hts _ (List.mem_append_right _ (List.mem_of_getElem? (i := 888) rfl)), List.forall_mem_cons.mpr ⟨hts _ (List.mem_append_right _ (List.mem_of_getElem? (i := 889) rfl)), List.forall_mem_cons.mpr ⟨hts _ (List.mem_append_right _ (List.mem_of_getElem? (i := 890) rfl)), List.forall_mem_cons.mpr ⟨hts _ (List.mem_append_right _ (List.mem_of_getElem? (i := 891) rfl)), List.forall_mem_cons.mpr ⟨hts _ (List.mem_append_right _ (List.mem_of_getElem? (i := 892) rfl)), List.forall_mem_cons.mpr ⟨hts _ (List.mem_append_right _ (List.mem_of_getElem? (i := 894) rfl)), List.forall_mem_cons.mpr ⟨hts _ (List.mem_append_right _ (List.mem_of_getElem? (i := 895) rfl)), List.forall_mem_cons.mpr ⟨hts _ (List.mem_append_right _ (List.mem_of_getElem? (i := 896) rfl)), List.forall_mem_cons.mpr ⟨hts _ (List.mem_append_right _ (List.mem_of_getElem? (i := 898) rfl)), List.forall_mem_cons.mpr ⟨hts _ (List.mem_append_right _ (List.mem_of_getElem? (i := 899) rfl)), List.forall_mem_cons.mpr ⟨hts _ (List.mem_append_right _ (List.mem_of_getElem? (i := 900) rfl)), List.forall_mem_cons.mpr ⟨hts _ (List.mem_append_right _ (List.mem_of_getElem? (i := 902) rfl)), List.forall_mem_cons.mpr ⟨hts _ (List.mem_append_right _ (List.mem_of_getElem? (i := 903) rfl)), List.forall_mem_cons.mpr ⟨hts _ (List.mem_append_right _ (List.mem_of_getElem? (i := 904) rfl)), List.forall_mem_cons.mpr ⟨hts _ (List.mem_append_right _ (List.mem_of_getElem? (i := 906) rfl)), List.forall_mem_cons.mpr ⟨hts _ (List.mem_append_right _ (List.mem_of_getElem? (i := 907) rfl)), List.forall_mem_cons.mpr ⟨hts _ (List.mem_append_right _ (List.mem_of_getElem? (i := 908) rfl)), List.forall_mem_cons.mpr ⟨hts _ (List.mem_append_right _ (List.mem_of_getElem? (i := 910) rfl)), List.forall_mem_cons.mpr ⟨hts _ (List.mem_append_right _ (List.mem_of_getElem? (i := 911) rfl)), List.forall_mem_cons.mpr ⟨hts _ (List.mem_append_right _ (List.mem_of_getElem? (i := 912) rfl)), List.forall_mem_cons.mpr ⟨hts _ (List.mem_append_right _ (List.mem_of_getElem? (i := 914) rfl)), List.forall_mem_cons.mpr ⟨hts _ (List.mem_append_right _ (List.mem_of_getElem? (i := 915) rfl)), List.forall_mem_cons.mpr ⟨hts _ (List.mem_append_right _ (List.mem_of_getElem? (i := 916) rfl)), List.forall_mem_cons.mpr ⟨hts _ (List.mem_append_right _ (List.mem_of_getElem? (i := 918) rfl)), List.forall_mem_cons.mpr ⟨hts _ (List.mem_append_right _ (List.mem_of_getElem? (i := 919) rfl)), List.forall_mem_cons.mpr ⟨hts _ (List.mem_append_right _ (List.mem_of_getElem? (i := 920) rfl)), List.forall_mem_cons.mpr ⟨hts _ (List.mem_append_right _ (List.mem_of_getElem? (i := 922) rfl)), List.forall_mem_cons.mpr ⟨hts _ (List.mem_append_right _ (List.mem_of_getElem? (i := 923) rfl)), List.forall_mem_cons.mpr ⟨hts _ (List.mem_append_right _ (List.mem_of_getElem? (i := 924) rfl)), List.forall_mem_cons.mpr ⟨hts _ (List.mem_append_right _ (List.mem_of_getElem? (i := 926) rfl)), List.forall_mem_cons.mpr ⟨hts _ (List.mem_append_right _ (List.mem_of_getElem? (i := 927) rfl)), List.forall_mem_cons.mpr ⟨hts _ (List.mem_append_right _ (List.mem_of_getElem? (i := 928) rfl)), List.forall_mem_cons.mpr ⟨hts _ (List.mem_append_right _ (List.mem_of_getElem? (i := 929) rfl)), List.forall_mem_cons.mpr ⟨hts _ (List.mem_append_right _ (List.mem_of_getElem? (i := 930) rfl)), List.forall_mem_cons.mpr ⟨hts _ (List.mem_append_right _ (List.mem_of_getElem? (i := 931) rfl)), List.forall_mem_cons.mpr ⟨hts _ (List.mem_append_right _ (List.mem_of_getElem? (i := 932) rfl)), List.forall_mem_cons.mpr ⟨hts _ (List.mem_append_right _ (List.mem_of_getElem? (i := 934) rfl)), List.forall_mem_cons.mpr ⟨hts _ (List.mem_append_right _ (List.mem_of_getElem? (i := 935) rfl)), List.forall_mem_cons.mpr ⟨hts _ (List.mem_append_right _ (List.mem_of_getElem? (i := 936) rfl)), List.forall_mem_cons.mpr ⟨hts _ (List.mem_append_right _ (List.mem_of_getElem? (i := 937) rfl)), List.forall_mem_cons.mpr ⟨hts _ (List.mem_append_right _ (List.mem_of_getElem? (i := 938) rfl)), List.forall_mem_cons.mpr ⟨hts _ (List.mem_append_right _ (List.mem_of_getElem? (i := 939) rfl)), List.forall_mem_cons.mpr ⟨hts _ (List.mem_append_right _ (List.mem_of_getElem? (i := 941) rfl)), List.forall_mem_cons.mpr ⟨hts _ (List.mem_append_right _ (List.mem_of_getElem? (i := 942) rfl)), List.forall_mem_cons.mpr ⟨hts _ (List.mem_append_right _ (List.mem_of_getElem? (i := 943) rfl)), List.forall_mem_cons.mpr ⟨hts _ (List.mem_append_right _ (List.mem_of_getElem? (i := 945) rfl)), List.forall_mem_cons.mpr ⟨hts _ (List.mem_append_right _ (List.mem_of_getElem? (i := 946) rfl)), List.forall_mem_cons.mpr ⟨hts _ (List.mem_append_right _ (List.mem_of_getElem? (i := 947) rfl)), List.forall_mem_cons.mpr ⟨hts _ (List.mem_append_right _ (List.mem_of_getElem? (i := 949) rfl)), List.forall_mem_cons.mpr ⟨hts _ (List.mem_append_right _ (List.mem_of_getElem? (i := 950) rfl)), List.forall_mem_cons.mpr ⟨hts _ (List.mem_append_right _ (List.mem_of_getElem? (i := 951) rfl)), List.forall_mem_cons.mpr ⟨hts _ (List.mem_append_right _ (List.mem_of_getElem? (i := 953) rfl)), List.forall_mem_cons.mpr ⟨hts _ (List.mem_append_right _ (List.mem_of_getElem? (i := 954) rfl)), List.forall_mem_cons.mpr ⟨hts _ (List.mem_append_right _ (List.mem_of_getElem? (i := 955) rfl)), List.forall_mem_cons.mpr ⟨hts _ (List.mem_append_right _ (List.mem_of_getElem? (i := 957) rfl)), List.forall_mem_cons.mpr ⟨hts _ (List.mem_append_right _ (List.mem_of_getElem? (i := 958) rfl)), fun _ h => absurd h List.not_mem_nil⟩⟩⟩⟩⟩⟩⟩⟩⟩⟩⟩⟩⟩⟩⟩⟩⟩⟩⟩⟩⟩⟩⟩⟩⟩⟩⟩⟩⟩⟩⟩⟩⟩⟩⟩⟩⟩⟩⟩⟩⟩⟩⟩⟩⟩⟩⟩⟩⟩⟩⟩⟩⟩⟩⟩⟩⟩⟩⟩⟩
  have h13 : ∀ w ∈ AW_13, w.before args s = true := by
    refine List.forall_mem_cons.mpr ⟨hts _ (List.mem_append_right _ (List.mem_of_getElem? (i := 959) rfl)), List.forall_mem_cons.mpr ⟨hts _ (List.mem_append_right _ (List.mem_of_getElem? (i := 961) rfl)), List.forall_mem_cons.mpr ⟨hts _ (List.mem_append_right _ (List.mem_of_getElem? (i := 962) rfl)), List.forall_mem_cons.mpr ⟨hts _ (List.mem_append_right _ (List.mem_of_getElem? (i := 963) rfl)), List.forall_mem_cons.mpr ⟨hts _ (List.mem_append_right _ (List.mem_of_getElem? (i := 965) rfl)), List.forall_mem_cons.mpr ⟨hts _ (List.mem_append_right _ (List.mem_of_getElem? (i := 966) rfl)), List.forall_mem_cons.mpr ⟨hts _ (List.mem_append_right _ (List.mem_of_getElem? (i := 967) rfl)), List.forall_mem_cons.mpr ⟨hts _ (List.mem_append_right _ (List.mem_of_getElem? (i := 969) rfl)), List.forall_mem_cons.mpr ⟨hts _ (List.mem_append_right _ (List.mem_of_getElem? (i := 970) rfl)), List.forall_mem_cons.mpr ⟨hts _ (List.mem_append_right _ (List.mem_of_getElem? (i := 971) rfl)), List.forall_mem_cons.mpr ⟨hts _ (List.mem_append_right _ (List.mem_of_getElem? (i := 973) rfl)), List.forall_mem_cons.mpr ⟨hts _ (List.mem_append_right _ (List.mem_of_getElem? (i := 974) rfl)), List.forall_mem_cons.mpr ⟨hts _ (List.mem_append_right _ (List.mem_of_getElem? (i := 975) rfl)), List.forall_mem_cons.mpr ⟨hts _ (List.mem_append_right _ (List.mem_of_getElem? (i := 977) rfl)), List.forall_mem_cons.mpr ⟨hts _ (List.mem_append_right _ (List.mem_of_getElem? (i := 978) rfl)), List.forall_mem_cons.mpr ⟨hts _ (List.mem_append_right _ (List.mem_of_getElem? (i := 979) rfl)), List.forall_mem_cons.mpr ⟨hts _ (List.mem_append_right _ (List.mem_of_getElem? (i := 981) rfl)), List.forall_mem_cons.mpr ⟨hts _ (List.mem_append_right _ (List.mem_of_getElem? (i := 982) rfl)), List.forall_mem_cons.mpr ⟨hts _ (List.mem_append_right _ (List.mem_of_getElem? (i := 983) rfl)), List.forall_mem_cons.mpr ⟨hts _ (List.mem_append_right _ (List.mem_of_getElem? (i := 985) rfl)), List.forall_mem_cons.mpr ⟨hts _ (List.mem_append_right _ (List.mem_of_getElem? (i := 986) rfl)), List.forall_mem_cons.mpr ⟨hts _ (List.mem_append_right _ (List.mem_of_getElem? (i := 987) rfl)), List.forall_mem_cons.mpr ⟨hts _ (List.mem_append_right _ (List.mem_of_getElem? (i := 989) rfl)), List.forall_mem_cons.mpr ⟨hts _ (List.mem_append_right _ (List.mem_of_getElem? (i := 990) rfl)), List.forall_mem_cons.mpr ⟨hts _ (List.mem_append_right _ (List.mem_of_getElem? (i := 991) rfl)), List.forall_mem_cons.mpr ⟨hts _ (List.mem_append_right _ (List.mem_of_getElem? (i := 993) rfl)), List.forall_mem_cons.mpr ⟨hts _ (List.mem_append_right _ (List.mem_of_getElem? (i := 994) rfl)), List.forall_mem_cons.mpr ⟨hts _ (List.mem_append_right _ (List.mem_of_getElem? (i := 995) rfl)), List.forall_mem_cons.mpr ⟨hts _ (List.mem_append_right _ (List.mem_of_getElem? (i := 997) rfl)), List.forall_mem_cons.mpr ⟨hts _ (List.mem_append_right _ (List.mem_of_getElem? (i := 998) rfl)), List.forall_mem_cons.mpr ⟨hts _ (List.mem_append_right _ (List.mem_of_getElem? (i := 999) rfl)), List.forall_mem_cons.mpr ⟨hts _ (List.mem_append_right _ (List.mem_of_getElem? (i := 1001) rfl)), List.forall_mem_cons.mpr ⟨hts _ (List.mem_append_right _ (List.mem_of_getElem? (i := 1002) rfl)), List.forall_mem_cons.mpr ⟨hts _ (List.mem_append_right _ (List.mem_of_getElem? (i := 1003) rfl)), List.forall_mem_cons.mpr ⟨hts _ (List.mem_append_right _ (List.mem_of_getElem? (i := 1005) rfl)), List.forall_mem_cons.mpr ⟨hts _ (List.mem_append_right _ (List.mem_of_getElem? (i := 1006) rfl)), List.forall_mem_cons.mpr ⟨hts _ (List.mem_append_right _ (List.mem_of_getElem? (i := 1007) rfl)), List.forall_mem_cons.mpr ⟨hts _ (List.mem_append_right _ (List.mem_of_getElem? (i := 1009) rfl)), List.forall_mem_cons.mpr ⟨hts _ (List.mem_append_right _ (List.mem_of_getElem? (i := 1010) rfl)), List.forall_mem_cons.mpr ⟨hts _ (List.mem_append_right _ (List.mem_of_getElem? (i := 1011) rfl)), List.forall_mem_cons.mpr ⟨hts _ (List.mem_append_right _ (List.mem_of_getElem? (i := 1013) rfl)), List.forall_mem_cons.mpr ⟨hts _ (List.mem_append_right _ (List.mem_of_getElem? (i := 1014) rfl)), List.forall_mem_cons.mpr ⟨hts _ (List.mem_append_right _ (List.mem_of_getElem? (i := 1015) rfl)), List.forall_mem_cons.mpr ⟨hts _ (List.mem_append_right _ (List.mem_of_getElem? (i := 1017) rfl)), List.forall_mem_cons.mpr ⟨hts _ (List.mem_append_right _ (List.mem_of_getElem? (i := 1018) rfl)), List.forall_mem_cons.mpr ⟨hts _ (List.mem_append_right _ (List.mem_of_getElem? (i := 1019) rfl)), List.forall_mem_cons.mpr ⟨hts _ (List.mem_append_right _ (List.mem_of_getElem? (i := 1021) rfl)), List.forall_mem_cons.mpr ⟨hts _ (List.mem_append_right _ (List.mem_of_getElem? (i := 1022) rfl)), List.forall_mem_cons.mpr ⟨hts _ (List.mem_append_right _ (List.mem_of_getElem? (i := 1023) rfl)), List.forall_mem_cons.mpr ⟨hts _ (List.mem_append_right _ (List.mem_of_getElem? (i := 1024) rfl)), List.forall_mem_cons.mpr ⟨hts _ (List.mem_append_right _ (List.mem_of_getElem? (i := 1025) rfl)), List.forall_mem_cons.mpr ⟨hts _ (List.mem_append_right _ (List.mem_of_getElem? (i := 1026) rfl)), List.forall_mem_cons.mpr ⟨hts _ (List.mem_append_right _ (List.mem_of_getElem? (i := 1027) rfl)), List.forall_mem_cons.mpr ⟨hts _ (List.mem_append_right _ (List.mem_of_getElem? (i := 1028) rfl)), List.forall_mem_cons.mpr ⟨hts _ (List.mem_append_right _ (List.mem_of_getElem? (i := 1029) rfl)), List.forall_mem_cons.mpr ⟨hts _ (List.mem_append_right _ (List.mem_of_getElem? (i := 1030) rfl)), List.forall_mem_cons.mpr ⟨hts _ (List.mem_append_right _ (List.mem_of_getElem? (i := 1031) rfl)), List.forall_mem_cons.mpr ⟨hts _ (List.mem_append_right _ (List.mem_of_getElem? (i := 1033) rfl)), List.forall_mem_cons.mpr ⟨hts _ (List.mem_append_right _ (List.mem_of_getElem? (i := 1034) rfl)), List.forall_mem_cons.mpr ⟨hts _ (List.mem_append_right _ (List.mem_of_getElem? (i := 1035) rfl)), fun _ h => absurd h List.not_mem_nil⟩⟩⟩⟩⟩⟩⟩⟩⟩⟩⟩⟩⟩⟩⟩⟩⟩⟩⟩⟩⟩⟩⟩⟩⟩⟩⟩⟩⟩⟩⟩⟩⟩⟩⟩⟩⟩⟩⟩⟩⟩⟩⟩⟩⟩⟩⟩⟩⟩⟩⟩⟩⟩⟩⟩⟩⟩⟩⟩⟩
  have h14 : ∀ w ∈ AW_14, w.before args s = true := by
    refine List.forall_mem_cons.mpr ⟨hts _ (List.mem_append_right _ (List.mem_of_getElem? (i := 1037) rfl)), List.forall_mem_cons.mpr ⟨hts _ (List.mem_append_right _ (List.mem_of_getElem? (i := 1038) rfl)), List.forall_mem_cons.mpr ⟨hts _ (List.mem_append_right _ (List.mem_of_getElem? (i := 1039) rfl)), List.forall_mem_cons.mpr ⟨hts _ (List.mem_append_right _ (List.mem_of_getElem? (i := 1040) rfl)), List.forall_mem_cons.mpr ⟨hts _ (List.mem_append_right _ (List.mem_of_getElem? (i := 1041) rfl)), List.forall_mem_cons.mpr ⟨hts _ (List.mem_append_right _ (List.mem_of_getElem? (i := 1042) rfl)), List.forall_mem_cons.mpr ⟨hts _ (List.mem_append_right _ (List.mem_of_getElem? (i := 1043) rfl)), List.forall_mem_cons.mpr ⟨hts _ (List.mem_append_right _ (List.mem_of_getElem? (i := 1045) rfl)), List.forall_mem_cons.mpr ⟨hts _ (List.mem_append_right _ (List.mem_of_getElem? (i := 1046) rfl)), List.forall_mem_cons.mpr ⟨hts _ (List.mem_append_right _ (List.mem_of_getElem? (i := 1047) rfl)), List.forall_mem_cons.mpr ⟨hts _ (List.mem_append_right _ (List.mem_of_getElem? (i := 1048) rfl)), List.forall_mem_cons.mpr ⟨hts _ (List.mem_append_right _ (List.mem_of_getElem? (i := 1049) rfl)), List.forall_mem_cons.mpr ⟨hts _ (List.mem_append_right _ (List.mem_of_getElem? (i := 1050) rfl)), List.forall_mem_cons.mpr ⟨hts _ (List.mem_append_right _ (List.mem_of_getElem? (i := 1051) rfl)), List.forall_mem_cons.mpr ⟨hts _ (List.mem_append_right _ (List.mem_of_getElem? (i := 1052) rfl)), List.forall_mem_cons.mpr ⟨hts _ (List.mem_append_right _ (List.mem_of_getElem? (i := 1053) rfl)), List.forall_mem_cons.mpr ⟨hts _ (List.mem_append_right _ (List.mem_of_getElem? (i := 1054) rfl)), List.forall_mem_cons.mpr ⟨hts _ (List.mem_append_right _ (List.mem_of_getElem? (i := 1055) rfl)), List.forall_mem_cons.mpr ⟨hts _ (List.mem_append_right _ (List.mem_of_getElem? (i := 1056) rfl)), List.forall_mem_cons.mpr ⟨hts _ (List.mem_append_right _ (List.mem_of_getElem? (i := 1057) rfl)), List.forall_mem_cons.mpr ⟨hts _ (List.mem_append_right _ (List.mem_of_getElem? (i := 1058) rfl)), List.forall_mem_cons.mpr ⟨hts _ (List.mem_append_right _ (List.mem_of_getElem? (i := 1059) rfl)), List.forall_mem_cons.mpr ⟨hts _ (List.mem_append_right _ (List.mem_of_getElem? (i := 1060) rfl)), List.forall_mem_cons.mpr ⟨hts _ (List.mem_append_right _ (List.mem_of_getElem? (i := 1061) rfl)), List.forall_mem_cons.mpr ⟨hts _ (List.mem_append_right _ (List.mem_of_getElem? (i := 1062) rfl)), List.forall_mem_cons.mpr ⟨hts _ (List.mem_append_right _ (List.mem_of_getElem? (i := 1063) rfl)), List.forall_mem_cons.mpr ⟨hts _ (List.mem_append_left _ (List.mem_of_getElem? (i := 0) rfl)), List.forall_mem_cons.mpr ⟨hts _ (List.mem_append_left _ (List.mem_of_getElem? (i := 1) rfl)), List.forall_mem_cons.mpr ⟨hts _ (List.mem_append_left _ (List.mem_of_getElem? (i := 2) rfl)), List.forall_mem_cons.mpr ⟨hts _ (List.mem_append_left _ (List.mem_of_getElem? (i := 3) rfl)), List.forall_mem_cons.mpr ⟨hts _ (List.mem_append_left _ (List.mem_of_getElem? (i := 4) rfl)), List.forall_mem_cons.mpr ⟨hts _ (List.mem_append_left _ (List.mem_of_getElem? (i := 5) rfl)), List.forall_mem_cons.mpr ⟨hts _ (List.mem_append_left _ (List.mem_of_getElem? (i := 6) rfl)), List.forall_mem_cons.mpr ⟨hts _ (List.mem_append_left _ (List.mem_of_getElem? (i := 7) rfl)), List.forall_mem_cons.mpr ⟨hts _ (List.mem_append_left _ (List.mem_of_getElem? (i := 8) rfl)), List.forall_mem_cons.mpr ⟨hts _ (List.mem_append_left _ (List.mem_of_getElem? (i := 9) rfl)), List.forall_mem_cons.mpr ⟨hts _ (List.mem_append_left _ (List.mem_of_getElem? (i := 10) rfl)), List.forall_mem_cons.mpr ⟨hts _ (List.mem_append_left _ (List.mem_of_getElem? (i := 11) rfl)), List.forall_mem_cons.mpr ⟨hts _ (List.mem_append_left _ (List.mem_of_getElem? (i := 12) rfl)), List.forall_mem_cons.mpr ⟨hts _ (List.mem_append_left _ (List.mem_of_getElem? (i := 13) rfl)), List.forall_mem_cons.mpr ⟨hts _ (List.mem_append_left _ (List.mem_of_getElem? (i := 14) rfl)), List.forall_mem_cons.mpr ⟨hts _ (List.mem_append_left _ (List.mem_of_getElem? (i := 15) rfl)), List.forall_mem_cons.mpr ⟨hts _ (List.mem_append_left _ (List.mem_of_getElem? (i := 16) rfl)), List.forall_mem_cons.mpr ⟨hts _ (List.mem_append_left _ (List.mem_of_getElem? (i := 17) rfl)), List.forall_mem_cons.mpr ⟨hts _ (List.mem_append_left _ (List.mem_of_getElem? (i := 18) rfl)), List.forall_mem_cons.mpr ⟨hts _ (List.mem_append_left _ (List.mem_of_getElem? (i := 19) rfl)), List.forall_mem_cons.mpr ⟨hts _ (List.mem_append_left _ (List.mem_of_getElem? (i := 20) rfl)), List.forall_mem_cons.mpr ⟨hts _ (List.mem_append_left _ (List.mem_of_getElem? (i := 21) rfl)), List.forall_mem_cons.mpr ⟨hts _ (List.mem_append_left _ (List.mem_of_getElem? (i := 22) rfl)), List.forall_mem_cons.mpr ⟨hts _ (List.mem_append_left _ (List.mem_of_getElem? (i := 23) rfl)), List.forall_mem_cons.mpr ⟨hts _ (List.mem_append_left _ (List.mem_of_getElem? (i := 24) rfl)), List.forall_mem_cons.mpr ⟨hts _ (List.mem_append_left _ (List.mem_of_getElem? (i := 25) rfl)), List.forall_mem_cons.mpr ⟨hts _ (List.mem_append_left _ (List.mem_of_getElem? (i := 26) rfl)), List.forall_mem_cons.mpr ⟨hts _ (List.mem_append_left _ (List.mem_of_getElem? (i := 27) rfl)), List.forall_mem_cons.mpr ⟨hts _ (List.mem_append_left _ (List.mem_of_getElem? (i := 28) rfl)), List.forall_mem_cons.mpr ⟨hts _ (List.mem_append_left _ (List.mem_of_getElem? (i := 29) rfl)), List.forall_mem_cons.mpr ⟨hts _ (List.mem_append_left _ (List.mem_of_getElem? (i := 30) rfl)), List.forall_mem_cons.mpr ⟨hts _ (List.mem_append_left _ (List.mem_of_getElem? (i := 31) rfl)), List.forall_mem_cons.mpr ⟨hts _ (List.mem_append_left _ (List.mem_of_getElem? (i := 32) rfl)), List.forall_mem_cons.mpr ⟨hts _ (List.mem_append_left _ (List.mem_of_getElem? (i := 33) rfl)), fun _ h => absurd h List.not_mem_nil⟩⟩⟩⟩⟩⟩⟩⟩⟩⟩⟩⟩⟩⟩⟩⟩⟩⟩⟩⟩⟩⟩⟩⟩⟩⟩⟩⟩⟩⟩⟩⟩⟩⟩⟩⟩⟩⟩⟩⟩⟩⟩⟩⟩⟩⟩⟩⟩⟩⟩⟩⟩⟩⟩⟩⟩⟩⟩⟩⟩
  have h15 : ∀ w ∈ AW_15, w.before args s = true := by
    refine List.forall_mem_cons.mpr ⟨hts _ (List.mem_append_left _ (List.mem_of_getElem? (i := 34) rfl)), List.forall_mem_cons.mpr ⟨hts _ (List.mem_append_left _ (List.mem_of_getElem? (i := 35) rfl)), List.forall_mem_cons.mpr ⟨hts _ (List.mem_append_left _ (List.mem_of_getElem? (i := 36) rfl)), List.forall_mem_cons.mpr ⟨hts _ (List.mem_append_left _ (List.mem_of_getElem? (i := 37) rfl)), List.forall_mem_cons.mpr ⟨hts _ (List.mem_append_left _ (List.mem_of_getElem? (i := 38) rfl)), List.forall_mem_cons.mpr ⟨hts _ (List.mem_append_left _ (List.mem_of_getElem? (i := 39) rfl)), List.forall_mem_cons.mpr ⟨hts _ (List.mem_append_left _ (List.mem_of_getElem? (i := 40) rfl)), List.forall_mem_cons.mpr ⟨hts _ (List.mem_append_left _ (List.mem_of_getElem? (i := 41) rfl)), List.forall_mem_cons.mpr ⟨hts _ (List.mem_append_left _ (List.mem_of_getElem? (i := 42) rfl)), List.forall_mem_cons.mpr ⟨hts _ (List.mem_append_left _ (List.mem_of_getElem? (i := 43) rfl)), List.forall_mem_cons.mpr ⟨hts _ (List.mem_append_left _ (List.mem_of_getElem? (i := 44) rfl)), List.forall_mem_cons.mpr ⟨hts _ (List.mem_append_left _ (List.mem_of_getElem? (i := 45) rfl)), List.forall_mem_cons.mpr ⟨hts _ (List.mem_append_left _ (List.mem_of_getElem? (i := 46) rfl)), List.forall_mem_cons.mpr ⟨hts _ (List.mem_append_left _ (List.mem_of_getElem? (i := 47) rfl)), List.forall_mem_cons.mpr ⟨hts _ (List.mem_append_left _ (List.mem_of_getElem? (i := 48) rfl)), List.forall_mem_cons.mpr ⟨hts _ (List.mem_append_left _ (List.mem_of_getElem? (i := 49) rfl)), List.forall_mem_cons.mpr ⟨hts _ (List.mem_append_left _ (List.mem_of_getElem? (i := 50) rfl)), List.forall_mem_cons.mpr ⟨hts _ (List.mem_append_left _ (List.mem_of_getElem? (i := 51) rfl)), List.forall_mem_cons.mpr ⟨hts _ (List.mem_append_left _ (List.mem_of_getElem? (i := 52) rfl)), List.forall_mem_cons.mpr ⟨hts _ (List.mem_append_left _ (List.mem_of_getElem? (i := 53) rfl)), List.forall_mem_cons.mpr ⟨hts _ (List.mem_append_left _ (List.mem_of_getElem? (i := 54) rfl)), List.forall_mem_cons.mpr ⟨hts _ (List.mem_append_left _ (List.mem_of_getElem? (i := 55) rfl)), List.forall_mem_cons.mpr ⟨hts _ (List.mem_append_left _ (List.mem_of_getElem? (i := 56) rfl)), List.forall_mem_cons.mpr ⟨hts _ (List.mem_append_left _ (List.mem_of_getElem? (i := 57) rfl)), List.forall_mem_cons.mpr ⟨hts _ (List.mem_append_left _ (List.mem_of_getElem? (i := 58) rfl)), List.forall_mem_cons.mpr ⟨hts _ (List.mem_append_left _ (List.mem_of_getElem? (i := 59) rfl)), List.forall_mem_cons.mpr ⟨hts _ (List.mem_append_left _ (List.mem_of_getElem? (i := 60) rfl)), List.forall_mem_cons.mpr ⟨hts _ (List.mem_append_left _ (List.mem_of_getElem? (i := 61) rfl)), List.forall_mem_cons.mpr ⟨hts _ (List.mem_append_left _ (List.mem_of_getElem? (i := 62) rfl)), List.forall_mem_cons.mpr ⟨hts _ (List.mem_append_left _ (List.mem_of_getElem? (i := 63) rfl)), List.forall_mem_cons.mpr ⟨hts _ (List.mem_append_left _ (List.mem_of_getElem? (i := 64) rfl)), List.forall_mem_cons.mpr ⟨hts _ (List.mem_append_left _ (List.mem_of_getElem? (i := 65) rfl)), List.forall_mem_cons.mpr ⟨hts _ (List.mem_append_left _ (List.mem_of_getElem? (i := 66) rfl)), List.forall_mem_cons.mpr ⟨hts _ (List.mem_append_left _ (List.mem_of_getElem? (i := 67) rfl)), List.forall_mem_cons.mpr ⟨hts _ (List.mem_append_left _ (List.mem_of_getElem? (i := 68) rfl)), List.forall_mem_cons.mpr ⟨hts _ (List.mem_append_left _ (List.mem_of_getElem? (i := 69) rfl)), List.forall_mem_cons.mpr ⟨hts _ (List.mem_append_left _ (List.mem_of_getElem? (i := 70) rfl)), List.forall_mem_cons.mpr ⟨hts _ (List.mem_append_left _ (List.mem_of_getElem? (i := 71) rfl)), List.forall_mem_cons.mpr ⟨hts _ (List.mem_append_left _ (List.mem_of_getElem? (i := 72) rfl)), List.forall_mem_cons.mpr ⟨hts _ (List.mem_append_left _ (List.mem_of_getElem? (i := 73) rfl)), List.forall_mem_cons.mpr ⟨hts _ (List.mem_append_left _ (List.mem_of_getElem? (i := 74) rfl)), fun _ h => absurd h List.not_mem_nil⟩⟩⟩⟩⟩⟩⟩⟩⟩⟩⟩⟩⟩⟩⟩⟩⟩⟩⟩⟩⟩⟩⟩⟩⟩⟩⟩⟩⟩⟩⟩⟩⟩⟩⟩⟩⟩⟩⟩⟩⟩
  exact List.forall_mem_append.mpr ⟨h0, List.forall_mem_append.mpr ⟨h1, List.forall_mem_append.mpr ⟨h2, List.forall_mem_append.mpr ⟨h3, List.forall_mem_append.mpr ⟨h4, List.forall_mem_append.mpr ⟨h5, List.forall_mem_append.mpr ⟨h6, List.forall_mem_append.mpr ⟨h7, List.forall_mem_append.mpr ⟨h8, List.forall_mem_append.mpr ⟨h9, List.forall_mem_append.mpr ⟨h10, List.forall_mem_append.mpr ⟨h11, List.forall_mem_append.mpr ⟨h12, List.forall_mem_append.mpr ⟨h13, List.forall_mem_append.mpr ⟨h14, h15⟩⟩⟩⟩⟩⟩⟩⟩⟩⟩⟩⟩⟩⟩⟩
