abbrev y_TM_init : MethodName := ⟨"TaleMachine", "<init>", "()V"⟩
abbrev y_TM_begin : MethodName := ⟨"TaleMachine", "begin", "(II)V"⟩
abbrev y_TM_code : MethodName := ⟨"TaleMachine", "code", "(II)Z"⟩
abbrev y_TM_collect : MethodName := ⟨"TaleMachine", "collect", "()I"⟩
abbrev y_TM_has : MethodName := ⟨"TaleMachine", "has", "(III)I"⟩
abbrev y_TM_isOf : MethodName := ⟨"TaleMachine", "isOf", "(II)Z"⟩
abbrev y_TM_isProperty : MethodName := ⟨"TaleMachine", "isProperty", "(I)Z"⟩
abbrev y_TM_object : MethodName := ⟨"TaleMachine", "object", "(III)I"⟩
abbrev y_TM_part : MethodName := ⟨"TaleMachine", "part", "(LTaleMachine$Values;II)I"⟩
abbrev y_TM_property : MethodName := ⟨"TaleMachine", "property", "(IIII)V"⟩
abbrev y_TM_run : MethodName := ⟨"TaleMachine", "run", "(I)I"⟩
abbrev y_TM_said : MethodName := ⟨"TaleMachine", "said", "(II)I"⟩
abbrev y_TM_show : MethodName := ⟨"TaleMachine", "show", "(I)I"⟩
abbrev y_TM_stack : MethodName := ⟨"TaleMachine", "stack", "(II)I"⟩
abbrev y_TM_stop : MethodName := ⟨"TaleMachine", "stop", "()Z"⟩
abbrev y_Frame_init : MethodName := ⟨"TaleMachine$Frame", "<init>", "()V"⟩
abbrev y_History_init : MethodName := ⟨"TaleMachine$History", "<init>", "()V"⟩
abbrev y_History_bringBack : MethodName := ⟨"TaleMachine$History", "bringBack", "(ILTaleMachine$State;)Z"⟩
abbrev y_History_dropOldest : MethodName := ⟨"TaleMachine$History", "dropOldest", "()V"⟩
abbrev y_History_dropPoints : MethodName := ⟨"TaleMachine$History", "dropPoints", "()V"⟩
abbrev y_History_dropSaved : MethodName := ⟨"TaleMachine$History", "dropSaved", "()V"⟩
abbrev y_History_save : MethodName := ⟨"TaleMachine$History", "save", "(ILTaleMachine$State;)V"⟩
abbrev y_History_setPoint : MethodName := ⟨"TaleMachine$History", "setPoint", "(LTaleMachine$State;)V"⟩
abbrev y_History_undo : MethodName := ⟨"TaleMachine$History", "undo", "(LTaleMachine$State;)Z"⟩
abbrev y_Script_init : MethodName := ⟨"TaleMachine$Script", "<init>", "()V"⟩
abbrev y_Script_address : MethodName := ⟨"TaleMachine$Script", "address", "(I)I"⟩
abbrev y_Script_append : MethodName := ⟨"TaleMachine$Script", "append", "(II)Z"⟩
abbrev y_Script_at : MethodName := ⟨"TaleMachine$Script", "at", "(I)I"⟩
abbrev y_Script_beginning : MethodName := ⟨"TaleMachine$Script", "beginning", "(I)I"⟩
abbrev y_Script_behind : MethodName := ⟨"TaleMachine$Script", "behind", "(II)I"⟩
abbrev y_Script_instruction : MethodName := ⟨"TaleMachine$Script", "instruction", "(I)I"⟩
abbrev y_Script_isMethod : MethodName := ⟨"TaleMachine$Script", "isMethod", "(II)Z"⟩
abbrev y_Script_locals : MethodName := ⟨"TaleMachine$Script", "locals", "(I)I"⟩
abbrev y_Script_number : MethodName := ⟨"TaleMachine$Script", "number", "(I)I"⟩
abbrev y_State_init : MethodName := ⟨"TaleMachine$State", "<init>", "()V"⟩
abbrev y_State_copy : MethodName := ⟨"TaleMachine$State", "copy", "(LTaleMachine$State;)V"⟩
abbrev y_Teller_init : MethodName := ⟨"TaleMachine$Teller", "<init>", "(LTaleMachine$Script;LTaleMachine$World;LTaleMachine$History;)V"⟩
abbrev y_Teller_answer : MethodName := ⟨"TaleMachine$Teller", "answer", "(LTaleMachine$Frame;IIIII)Z"⟩
abbrev y_Teller_ask : MethodName := ⟨"TaleMachine$Teller", "ask", "(LTaleMachine$Frame;II)Z"⟩
abbrev y_Teller_bringBack : MethodName := ⟨"TaleMachine$Teller", "bringBack", "(LTaleMachine$Frame;I)Z"⟩
abbrev y_Teller_calculate : MethodName := ⟨"TaleMachine$Teller", "calculate", "(LTaleMachine$Frame;I)Z"⟩
abbrev y_Teller_canTake : MethodName := ⟨"TaleMachine$Teller", "canTake", "(LTaleMachine$Frame;I)Z"⟩
abbrev y_Teller_end : MethodName := ⟨"TaleMachine$Teller", "end", "(LTaleMachine$Frame;II)Z"⟩
abbrev y_Teller_enter : MethodName := ⟨"TaleMachine$Teller", "enter", "(IIIII)Z"⟩
abbrev y_Teller_finish : MethodName := ⟨"TaleMachine$Teller", "finish", "(III)Z"⟩
abbrev y_Teller_goOn : MethodName := ⟨"TaleMachine$Teller", "goOn", "(LTaleMachine$Frame;)Z"⟩
abbrev y_Teller_goal : MethodName := ⟨"TaleMachine$Teller", "goal", "(LTaleMachine$Frame;)I"⟩
abbrev y_Teller_halt : MethodName := ⟨"TaleMachine$Teller", "halt", "(I)V"⟩
abbrev y_Teller_inherited : MethodName := ⟨"TaleMachine$Teller", "inherited", "(LTaleMachine$Frame;II)Z"⟩
abbrev y_Teller_isFalse : MethodName := ⟨"TaleMachine$Teller", "isFalse", "(I)Z"⟩
abbrev y_Teller_isLocal : MethodName := ⟨"TaleMachine$Teller", "isLocal", "(LTaleMachine$Frame;I)Z"⟩
abbrev y_Teller_isObjectOnTop : MethodName := ⟨"TaleMachine$Teller", "isObjectOnTop", "(LTaleMachine$Frame;)Z"⟩
abbrev y_Teller_jump : MethodName := ⟨"TaleMachine$Teller", "jump", "(LTaleMachine$Frame;I)Z"⟩
abbrev y_Teller_jumpIfFalse : MethodName := ⟨"TaleMachine$Teller", "jumpIfFalse", "(LTaleMachine$Frame;I)Z"⟩
abbrev y_Teller_like : MethodName := ⟨"TaleMachine$Teller", "like", "(LTaleMachine$Frame;)Z"⟩
abbrev y_Teller_make : MethodName := ⟨"TaleMachine$Teller", "make", "(LTaleMachine$Frame;I)Z"⟩
abbrev y_Teller_number : MethodName := ⟨"TaleMachine$Teller", "number", "(III)I"⟩
abbrev y_Teller_perform : MethodName := ⟨"TaleMachine$Teller", "perform", "()Z"⟩
abbrev y_Teller_put : MethodName := ⟨"TaleMachine$Teller", "put", "(LTaleMachine$Frame;II)Z"⟩
abbrev y_Teller_putCopy : MethodName := ⟨"TaleMachine$Teller", "putCopy", "(LTaleMachine$Frame;I)Z"⟩
abbrev y_Teller_putTruthFor : MethodName := ⟨"TaleMachine$Teller", "putTruthFor", "(LTaleMachine$Frame;IZ)Z"⟩
abbrev y_Teller_raise : MethodName := ⟨"TaleMachine$Teller", "raise", "(I)Z"⟩
abbrev y_Teller_reachRoots : MethodName := ⟨"TaleMachine$Teller", "reachRoots", "()V"⟩
abbrev y_Teller_save : MethodName := ⟨"TaleMachine$Teller", "save", "(LTaleMachine$Frame;I)Z"⟩
abbrev y_Teller_setOwn : MethodName := ⟨"TaleMachine$Teller", "setOwn", "(LTaleMachine$Frame;I)Z"⟩
abbrev y_Teller_setPoint : MethodName := ⟨"TaleMachine$Teller", "setPoint", "(LTaleMachine$Frame;)Z"⟩
abbrev y_Teller_start : MethodName := ⟨"TaleMachine$Teller", "start", "(III)V"⟩
abbrev y_Teller_take : MethodName := ⟨"TaleMachine$Teller", "take", "(LTaleMachine$Frame;I)Z"⟩
abbrev y_Teller_takeIntoLocal : MethodName := ⟨"TaleMachine$Teller", "takeIntoLocal", "(LTaleMachine$Frame;I)Z"⟩
abbrev y_Teller_testOf : MethodName := ⟨"TaleMachine$Teller", "testOf", "(LTaleMachine$Frame;I)Z"⟩
abbrev y_Teller_top : MethodName := ⟨"TaleMachine$Teller", "top", "()LTaleMachine$Frame;"⟩
abbrev y_Teller_topInt : MethodName := ⟨"TaleMachine$Teller", "topInt", "()I"⟩
abbrev y_Teller_topKind : MethodName := ⟨"TaleMachine$Teller", "topKind", "()I"⟩
abbrev y_Values_init : MethodName := ⟨"TaleMachine$Values", "<init>", "(I)V"⟩
abbrev y_Values_add : MethodName := ⟨"TaleMachine$Values", "add", "(II)Z"⟩
abbrev y_Values_isFull : MethodName := ⟨"TaleMachine$Values", "isFull", "()Z"⟩
abbrev y_World_init : MethodName := ⟨"TaleMachine$World", "<init>", "()V"⟩
abbrev y_World_clearOwn : MethodName := ⟨"TaleMachine$World", "clearOwn", "(I)V"⟩
abbrev y_World_count : MethodName := ⟨"TaleMachine$World", "count", "()I"⟩
abbrev y_World_descends : MethodName := ⟨"TaleMachine$World", "descends", "(II)Z"⟩
abbrev y_World_fix : MethodName := ⟨"TaleMachine$World", "fix", "(IIII)I"⟩
abbrev y_World_forgetReached : MethodName := ⟨"TaleMachine$World", "forgetReached", "()V"⟩
abbrev y_World_gather : MethodName := ⟨"TaleMachine$World", "gather", "(II)I"⟩
abbrev y_World_holder : MethodName := ⟨"TaleMachine$World", "holder", "(II)I"⟩
abbrev y_World_holderBehind : MethodName := ⟨"TaleMachine$World", "holderBehind", "(III)I"⟩
abbrev y_World_holderFrom : MethodName := ⟨"TaleMachine$World", "holderFrom", "(II)I"⟩
abbrev y_World_inLine : MethodName := ⟨"TaleMachine$World", "inLine", "(I)I"⟩
abbrev y_World_isFixed : MethodName := ⟨"TaleMachine$World", "isFixed", "(I)Z"⟩
abbrev y_World_isThere : MethodName := ⟨"TaleMachine$World", "isThere", "(I)Z"⟩
abbrev y_World_lay : MethodName := ⟨"TaleMachine$World", "lay", "(I)V"⟩
abbrev y_World_make : MethodName := ⟨"TaleMachine$World", "make", "(I)I"⟩
abbrev y_World_ownInt : MethodName := ⟨"TaleMachine$World", "ownInt", "(II)I"⟩
abbrev y_World_ownKind : MethodName := ⟨"TaleMachine$World", "ownKind", "(II)I"⟩
abbrev y_World_reach : MethodName := ⟨"TaleMachine$World", "reach", "(I)V"⟩
abbrev y_World_reachFrom : MethodName := ⟨"TaleMachine$World", "reachFrom", "(I)V"⟩
abbrev y_World_reachValue : MethodName := ⟨"TaleMachine$World", "reachValue", "(II)V"⟩
abbrev y_World_setOwn : MethodName := ⟨"TaleMachine$World", "setOwn", "(IIII)V"⟩
abbrev y_World_sweep : MethodName := ⟨"TaleMachine$World", "sweep", "()I"⟩
abbrev y_Law_begin : MethodName := ⟨"TaleMachineLaw", "begin", "(LTaleMachine;II)I"⟩
abbrev y_Law_has : MethodName := ⟨"TaleMachineLaw", "has", "(LTaleMachine;III[J)I"⟩
abbrev y_Law_object : MethodName := ⟨"TaleMachineLaw", "object", "(LTaleMachine;III[J)I"⟩
abbrev y_Law_property : MethodName := ⟨"TaleMachineLaw", "property", "(LTaleMachine;IIII)I"⟩
abbrev y_Law_said : MethodName := ⟨"TaleMachineLaw", "said", "(LTaleMachine;II[J)I"⟩
abbrev y_Law_show : MethodName := ⟨"TaleMachineLaw", "show", "(LTaleMachine;I[J)I"⟩
abbrev y_Law_stack : MethodName := ⟨"TaleMachineLaw", "stack", "(LTaleMachine;II[J)I"⟩
abbrev y_Model_init : MethodName := ⟨"TaleMachineModel", "<init>", "()V"⟩
abbrev y_Model_ask : MethodName := ⟨"TaleMachineModel", "ask", "(IIIII)Z"⟩
abbrev y_Model_assign : MethodName := ⟨"TaleMachineModel", "assign", "(I)Z"⟩
abbrev y_Model_at : MethodName := ⟨"TaleMachineModel", "at", "(I)I"⟩
abbrev y_Model_begin : MethodName := ⟨"TaleMachineModel", "begin", "(II)V"⟩
abbrev y_Model_belongs : MethodName := ⟨"TaleMachineModel", "belongs", "(II)Z"⟩
abbrev y_Model_call : MethodName := ⟨"TaleMachineModel", "call", "(IIIII)Z"⟩
abbrev y_Model_code : MethodName := ⟨"TaleMachineModel", "code", "(II)Z"⟩
abbrev y_Model_collect : MethodName := ⟨"TaleMachineModel", "collect", "()I"⟩
abbrev y_Model_copy : MethodName := ⟨"TaleMachineModel", "copy", "(II)V"⟩
abbrev y_Model_empty : MethodName := ⟨"TaleMachineModel", "empty", "(I)V"⟩
abbrev y_Model_end : MethodName := ⟨"TaleMachineModel", "end", "(II)Z"⟩
abbrev y_Model_enter : MethodName := ⟨"TaleMachineModel", "enter", "(IIII)V"⟩
abbrev y_Model_findLine : MethodName := ⟨"TaleMachineModel", "findLine", "(I)V"⟩
abbrev y_Model_give : MethodName := ⟨"TaleMachineModel", "give", "(IIII)V"⟩
abbrev y_Model_going : MethodName := ⟨"TaleMachineModel", "going", "(III)Z"⟩
abbrev y_Model_handler : MethodName := ⟨"TaleMachineModel", "handler", "(II)I"⟩
abbrev y_Model_has : MethodName := ⟨"TaleMachineModel", "has", "(III)I"⟩
abbrev y_Model_hasOwn : MethodName := ⟨"TaleMachineModel", "hasOwn", "(II)Z"⟩
abbrev y_Model_isFalse : MethodName := ⟨"TaleMachineModel", "isFalse", "(I)Z"⟩
abbrev y_Model_isObject : MethodName := ⟨"TaleMachineModel", "isObject", "(I)Z"⟩
abbrev y_Model_isOf : MethodName := ⟨"TaleMachineModel", "isOf", "(II)Z"⟩
abbrev y_Model_isParent : MethodName := ⟨"TaleMachineModel", "isParent", "(I)Z"⟩
abbrev y_Model_isThere : MethodName := ⟨"TaleMachineModel", "isThere", "(I)Z"⟩
abbrev y_Model_lengthOf : MethodName := ⟨"TaleMachineModel", "lengthOf", "(I)I"⟩
abbrev y_Model_make : MethodName := ⟨"TaleMachineModel", "make", "(I)Z"⟩
abbrev y_Model_mark : MethodName := ⟨"TaleMachineModel", "mark", "(III)I"⟩
abbrev y_Model_object : MethodName := ⟨"TaleMachineModel", "object", "(III)I"⟩
abbrev y_Model_one : MethodName := ⟨"TaleMachineModel", "one", "()Z"⟩
abbrev y_Model_outside : MethodName := ⟨"TaleMachineModel", "outside", "(III)Z"⟩
abbrev y_Model_over : MethodName := ⟨"TaleMachineModel", "over", "(I)I"⟩
abbrev y_Model_owner : MethodName := ⟨"TaleMachineModel", "owner", "(III)I"⟩
abbrev y_Model_parent : MethodName := ⟨"TaleMachineModel", "parent", "(II)I"⟩
abbrev y_Model_parents : MethodName := ⟨"TaleMachineModel", "parents", "(I)I"⟩
abbrev y_Model_placeOf : MethodName := ⟨"TaleMachineModel", "placeOf", "(II)I"⟩
abbrev y_Model_point : MethodName := ⟨"TaleMachineModel", "point", "()Z"⟩
abbrev y_Model_property : MethodName := ⟨"TaleMachineModel", "property", "(IIII)V"⟩
abbrev y_Model_push : MethodName := ⟨"TaleMachineModel", "push", "(II)V"⟩
abbrev y_Model_putting : MethodName := ⟨"TaleMachineModel", "putting", "(III)Z"⟩
abbrev y_Model_reckoning : MethodName := ⟨"TaleMachineModel", "reckoning", "(I)Z"⟩
abbrev y_Model_refuse : MethodName := ⟨"TaleMachineModel", "refuse", "(I)I"⟩
abbrev y_Model_run : MethodName := ⟨"TaleMachineModel", "run", "(I)I"⟩
abbrev y_Model_said : MethodName := ⟨"TaleMachineModel", "said", "(II)I"⟩
abbrev y_Model_show : MethodName := ⟨"TaleMachineModel", "show", "(I)I"⟩
abbrev y_Model_signed : MethodName := ⟨"TaleMachineModel", "signed", "(I)I"⟩
abbrev y_Model_sound : MethodName := ⟨"TaleMachineModel", "sound", "(II)Z"⟩
abbrev y_Model_spread : MethodName := ⟨"TaleMachineModel", "spread", "(I)I"⟩
abbrev y_Model_stack : MethodName := ⟨"TaleMachineModel", "stack", "(II)I"⟩
abbrev y_Model_stop : MethodName := ⟨"TaleMachineModel", "stop", "()Z"⟩
abbrev y_Model_taken : MethodName := ⟨"TaleMachineModel", "taken", "()I"⟩
abbrev y_Model_thrown : MethodName := ⟨"TaleMachineModel", "thrown", "()I"⟩
abbrev y_Model_toss : MethodName := ⟨"TaleMachineModel", "toss", "(I)Z"⟩
abbrev y_Model_truth : MethodName := ⟨"TaleMachineModel", "truth", "(Z)Z"⟩
abbrev y_Model_two : MethodName := ⟨"TaleMachineModel", "two", "(I)I"⟩
abbrev y_Model_world : MethodName := ⟨"TaleMachineModel", "world", "(II)Z"⟩
abbrev y_Arrays_fill : MethodName := ⟨"java/util/Arrays", "fill", "([II)V"⟩
def F_Frame : u_T := fun k => match k with
  | 0 => ("TaleMachine$Frame", "method", "I", false)
  | 1 => ("TaleMachine$Frame", "beginning", "I", false)
  | 2 => ("TaleMachine$Frame", "self", "I", false)
  | 3 => ("TaleMachine$Frame", "found", "I", false)
  | 4 => ("TaleMachine$Frame", "place", "I", false)
  | 5 => ("TaleMachine$Frame", "behind", "I", false)
  | 6 => ("TaleMachine$Frame", "base", "I", false)
  | _ => ("TaleMachine$Frame", "floor", "I", false)
def t_Frame : Nat → FieldType := fun k => match k with
  | 0 => .int
  | 1 => .int
  | 2 => .int
  | 3 => .int
  | 4 => .int
  | 5 => .int
  | 6 => .int
  | _ => .int
theorem n_Frame : ∀ a, a < 8 → ∀ b, b < 8 → a ≠ b → (F_Frame a).2.1 ≠ (F_Frame b).2.1 := by decide +kernel
theorem t_Frame_ok : ∀ k, k < 8 → parseFieldDescriptor (F_Frame k).2.2.1 = some (t_Frame k) := by decide +kernel
theorem dv_Frame : ∀ j, j < 8 → defaultValue (t_Frame j) = vp_V [.int 0, .int 0, .int 0, .int 0, .int 0, .int 0, .int 0, .int 0] j := by decide +kernel
def F_History : u_T := fun k => match k with
  | 0 => ("TaleMachine$History", "pointed", "[LTaleMachine$State;", true)
  | 1 => ("TaleMachine$History", "saved", "[LTaleMachine$State;", true)
  | 2 => ("TaleMachine$History", "isSaved", "[Z", true)
  | _ => ("TaleMachine$History", "points", "I", false)
def t_History : Nat → FieldType := fun k => match k with
  | 0 => .array (.object "TaleMachine$State")
  | 1 => .array (.object "TaleMachine$State")
  | 2 => .array .boolean
  | _ => .int
theorem n_History : ∀ a, a < 4 → ∀ b, b < 4 → a ≠ b → (F_History a).2.1 ≠ (F_History b).2.1 := by decide +kernel
theorem t_History_ok : ∀ k, k < 4 → parseFieldDescriptor (F_History k).2.2.1 = some (t_History k) := by decide +kernel
theorem dv_History : ∀ j, j < 4 → defaultValue (t_History j) = vp_V [.null, .null, .null, .int 0] j := by decide +kernel
def F_Script : u_T := fun k => match k with
  | 0 => ("TaleMachine$Script", "bytes", "[I", true)
  | _ => ("TaleMachine$Script", "length", "I", false)
def t_Script : Nat → FieldType := fun k => match k with
  | 0 => .array .int
  | _ => .int
theorem n_Script : ∀ a, a < 2 → ∀ b, b < 2 → a ≠ b → (F_Script a).2.1 ≠ (F_Script b).2.1 := by decide +kernel
theorem t_Script_ok : ∀ k, k < 2 → parseFieldDescriptor (F_Script k).2.2.1 = some (t_Script k) := by decide +kernel
theorem dv_Script : ∀ j, j < 2 → defaultValue (t_Script j) = vp_V [.null, .int 0] j := by decide +kernel
def F_State : u_T := fun k => match k with
  | 0 => ("TaleMachine$State", "kinds", "[I", true)
  | 1 => ("TaleMachine$State", "ints", "[I", true)
  | _ => ("TaleMachine$State", "parents", "[I", true)
def t_State : Nat → FieldType := fun k => match k with
  | 0 => .array .int
  | 1 => .array .int
  | _ => .array .int
theorem n_State : ∀ a, a < 3 → ∀ b, b < 3 → a ≠ b → (F_State a).2.1 ≠ (F_State b).2.1 := by decide +kernel
theorem t_State_ok : ∀ k, k < 3 → parseFieldDescriptor (F_State k).2.2.1 = some (t_State k) := by decide +kernel
theorem dv_State : ∀ j, j < 3 → defaultValue (t_State j) = vp_V [.null, .null, .null] j := by decide +kernel
def F_Teller : u_T := fun k => match k with
  | 0 => ("TaleMachine$Teller", "script", "LTaleMachine$Script;", true)
  | 1 => ("TaleMachine$Teller", "world", "LTaleMachine$World;", true)
  | 2 => ("TaleMachine$Teller", "history", "LTaleMachine$History;", true)
  | 3 => ("TaleMachine$Teller", "frames", "[LTaleMachine$Frame;", true)
  | 4 => ("TaleMachine$Teller", "values", "LTaleMachine$Values;", true)
  | 5 => ("TaleMachine$Teller", "sayings", "LTaleMachine$Values;", true)
  | 6 => ("TaleMachine$Teller", "result", "LTaleMachine$Values;", true)
  | 7 => ("TaleMachine$Teller", "depth", "I", false)
  | _ => ("TaleMachine$Teller", "outcome", "I", false)
def t_Teller : Nat → FieldType := fun k => match k with
  | 0 => .object "TaleMachine$Script"
  | 1 => .object "TaleMachine$World"
  | 2 => .object "TaleMachine$History"
  | 3 => .array (.object "TaleMachine$Frame")
  | 4 => .object "TaleMachine$Values"
  | 5 => .object "TaleMachine$Values"
  | 6 => .object "TaleMachine$Values"
  | 7 => .int
  | _ => .int
theorem n_Teller : ∀ a, a < 9 → ∀ b, b < 9 → a ≠ b → (F_Teller a).2.1 ≠ (F_Teller b).2.1 := by decide +kernel
theorem t_Teller_ok : ∀ k, k < 9 → parseFieldDescriptor (F_Teller k).2.2.1 = some (t_Teller k) := by decide +kernel
theorem dv_Teller : ∀ j, j < 9 → defaultValue (t_Teller j) = vp_V [.null, .null, .null, .null, .null, .null, .null, .int 0, .int 0] j := by decide +kernel
def F_Values : u_T := fun k => match k with
  | 0 => ("TaleMachine$Values", "kinds", "[I", true)
  | 1 => ("TaleMachine$Values", "ints", "[I", true)
  | _ => ("TaleMachine$Values", "count", "I", false)
def t_Values : Nat → FieldType := fun k => match k with
  | 0 => .array .int
  | 1 => .array .int
  | _ => .int
theorem n_Values : ∀ a, a < 3 → ∀ b, b < 3 → a ≠ b → (F_Values a).2.1 ≠ (F_Values b).2.1 := by decide +kernel
theorem t_Values_ok : ∀ k, k < 3 → parseFieldDescriptor (F_Values k).2.2.1 = some (t_Values k) := by decide +kernel
theorem dv_Values : ∀ j, j < 3 → defaultValue (t_Values j) = vp_V [.null, .null, .int 0] j := by decide +kernel
def F_World : u_T := fun k => match k with
  | 0 => ("TaleMachine$World", "now", "LTaleMachine$State;", true)
  | 1 => ("TaleMachine$World", "fixed", "I", false)
  | 2 => ("TaleMachine$World", "fixedLines", "[I", true)
  | 3 => ("TaleMachine$World", "fixedLengths", "[I", true)
  | 4 => ("TaleMachine$World", "line", "[I", true)
  | 5 => ("TaleMachine$World", "length", "I", false)
  | 6 => ("TaleMachine$World", "reached", "[I", true)
  | 7 => ("TaleMachine$World", "reachedCount", "I", false)
  | _ => ("TaleMachine$World", "reachedBits", "I", false)
def t_World : Nat → FieldType := fun k => match k with
  | 0 => .object "TaleMachine$State"
  | 1 => .int
  | 2 => .array .int
  | 3 => .array .int
  | 4 => .array .int
  | 5 => .int
  | 6 => .array .int
  | 7 => .int
  | _ => .int
theorem n_World : ∀ a, a < 9 → ∀ b, b < 9 → a ≠ b → (F_World a).2.1 ≠ (F_World b).2.1 := by decide +kernel
theorem t_World_ok : ∀ k, k < 9 → parseFieldDescriptor (F_World k).2.2.1 = some (t_World k) := by decide +kernel
theorem dv_World : ∀ j, j < 9 → defaultValue (t_World j) = vp_V [.null, .int 0, .null, .null, .null, .int 0, .null, .int 0, .int 0] j := by decide +kernel
def F_TM : u_T := fun k => match k with
  | 0 => ("TaleMachine", "script", "LTaleMachine$Script;", true)
  | 1 => ("TaleMachine", "world", "LTaleMachine$World;", true)
  | 2 => ("TaleMachine", "history", "LTaleMachine$History;", true)
  | _ => ("TaleMachine", "teller", "LTaleMachine$Teller;", true)
def t_TM : Nat → FieldType := fun k => match k with
  | 0 => .object "TaleMachine$Script"
  | 1 => .object "TaleMachine$World"
  | 2 => .object "TaleMachine$History"
  | _ => .object "TaleMachine$Teller"
theorem n_TM : ∀ a, a < 4 → ∀ b, b < 4 → a ≠ b → (F_TM a).2.1 ≠ (F_TM b).2.1 := by decide +kernel
theorem t_TM_ok : ∀ k, k < 4 → parseFieldDescriptor (F_TM k).2.2.1 = some (t_TM k) := by decide +kernel
theorem dv_TM : ∀ j, j < 4 → defaultValue (t_TM j) = vp_V [.null, .null, .null, .null] j := by decide +kernel
def F_Model : u_T := fun k => match k with
  | 0 => ("TaleMachineModel", "code", "I", false)
  | 1 => ("TaleMachineModel", "bytes", "[I", true)
  | 2 => ("TaleMachineModel", "size", "I", false)
  | 3 => ("TaleMachineModel", "w", "[I", true)
  | 4 => ("TaleMachineModel", "fixed", "I", false)
  | 5 => ("TaleMachineModel", "points", "I", false)
  | 6 => ("TaleMachineModel", "saved", "[Z", true)
  | 7 => ("TaleMachineModel", "length", "I", false)
  | 8 => ("TaleMachineModel", "line", "[I", true)
  | 9 => ("TaleMachineModel", "met", "[Z", true)
  | 10 => ("TaleMachineModel", "waiting", "[I", true)
  | 11 => ("TaleMachineModel", "nextParent", "[I", true)
  | 12 => ("TaleMachineModel", "height", "I", false)
  | 13 => ("TaleMachineModel", "kind", "[I", true)
  | 14 => ("TaleMachineModel", "number", "[I", true)
  | 15 => ("TaleMachineModel", "depth", "I", false)
  | 16 => ("TaleMachineModel", "begin", "[I", true)
  | 17 => ("TaleMachineModel", "table", "[I", true)
  | 18 => ("TaleMachineModel", "handlers", "[I", true)
  | 19 => ("TaleMachineModel", "base", "[I", true)
  | 20 => ("TaleMachineModel", "locals", "[I", true)
  | 21 => ("TaleMachineModel", "self", "[I", true)
  | 22 => ("TaleMachineModel", "found", "[I", true)
  | 23 => ("TaleMachineModel", "place", "[I", true)
  | 24 => ("TaleMachineModel", "next", "[I", true)
  | 25 => ("TaleMachineModel", "said", "I", false)
  | 26 => ("TaleMachineModel", "saidKind", "[I", true)
  | 27 => ("TaleMachineModel", "saidNumber", "[I", true)
  | 28 => ("TaleMachineModel", "resultKind", "I", false)
  | 29 => ("TaleMachineModel", "resultNumber", "I", false)
  | _ => ("TaleMachineModel", "ended", "I", false)
def t_Model : Nat → FieldType := fun k => match k with
  | 0 => .int
  | 1 => .array .int
  | 2 => .int
  | 3 => .array .int
  | 4 => .int
  | 5 => .int
  | 6 => .array .boolean
  | 7 => .int
  | 8 => .array .int
  | 9 => .array .boolean
  | 10 => .array .int
  | 11 => .array .int
  | 12 => .int
  | 13 => .array .int
  | 14 => .array .int
  | 15 => .int
  | 16 => .array .int
  | 17 => .array .int
  | 18 => .array .int
  | 19 => .array .int
  | 20 => .array .int
  | 21 => .array .int
  | 22 => .array .int
  | 23 => .array .int
  | 24 => .array .int
  | 25 => .int
  | 26 => .array .int
  | 27 => .array .int
  | 28 => .int
  | 29 => .int
  | _ => .int
theorem n_Model : ∀ a, a < 31 → ∀ b, b < 31 → a ≠ b → (F_Model a).2.1 ≠ (F_Model b).2.1 := by decide +kernel
theorem t_Model_ok : ∀ k, k < 31 → parseFieldDescriptor (F_Model k).2.2.1 = some (t_Model k) := by decide +kernel
theorem dv_Model : ∀ j, j < 31 → defaultValue (t_Model j) = vp_V [.int 0, .null, .int 0, .null, .int 0, .int 0, .null, .int 0, .null, .null, .null, .null, .int 0, .null, .null, .int 0, .null, .null, .null, .null, .null, .null, .null, .null, .null, .int 0, .null, .null, .int 0, .int 0, .int 0] j := by decide +kernel
abbrev cL : List vw_C := [("TaleMachine$Frame", F_Frame, 8), ("TaleMachine$History", F_History, 4), ("TaleMachine$Script", F_Script, 2), ("TaleMachine$State", F_State, 3), ("TaleMachine$Teller", F_Teller, 9), ("TaleMachine$Values", F_Values, 3), ("TaleMachine$World", F_World, 9), ("TaleMachine", F_TM, 4), ("TaleMachineModel", F_Model, 31)]
