/-! the classes: their names, their fields, the types; the methods: names and bytes -/
def kr_Model : String := "ModuleLoaderModel"
def kf_Model : u_T := fun k => match k with
  | 0 => ("ModuleLoaderModel", "thrown", "I", false)
  | 1 => ("ModuleLoaderModel", "memory", "[I", true)
  | 2 => ("ModuleLoaderModel", "sealed", "Z", false)
  | 3 => ("ModuleLoaderModel", "symbols", "I", false)
  | 4 => ("ModuleLoaderModel", "symbolName", "[I", true)
  | 5 => ("ModuleLoaderModel", "symbolCheck", "[I", true)
  | 6 => ("ModuleLoaderModel", "symbolAt", "[I", true)
  | 7 => ("ModuleLoaderModel", "symbolOf", "[I", true)
  | 8 => ("ModuleLoaderModel", "isModule", "[Z", true)
  | 9 => ("ModuleLoaderModel", "moduleName", "[I", true)
  | 10 => ("ModuleLoaderModel", "base", "[I", true)
  | 11 => ("ModuleLoaderModel", "size", "[I", true)
  | 12 => ("ModuleLoaderModel", "guard", "[I", true)
  | 13 => ("ModuleLoaderModel", "exit", "[I", true)
  | 14 => ("ModuleLoaderModel", "needs", "[Z", true)
  | 15 => ("ModuleLoaderModel", "taped", "I", false)
  | 16 => ("ModuleLoaderModel", "tape", "[I", true)
  | 17 => ("ModuleLoaderModel", "fault", "I", false)
  | 18 => ("ModuleLoaderModel", "which", "I", false)
  | 19 => ("ModuleLoaderModel", "trap", "I", false)
  | 20 => ("ModuleLoaderModel", "made", "I", false)
  | 21 => ("ModuleLoaderModel", "returned", "I", false)
  | 22 => ("ModuleLoaderModel", "registers", "[I", true)
  | 23 => ("ModuleLoaderModel", "imports", "I", false)
  | 24 => ("ModuleLoaderModel", "exports", "I", false)
  | 25 => ("ModuleLoaderModel", "places", "I", false)
  | 26 => ("ModuleLoaderModel", "length", "I", false)
  | 27 => ("ModuleLoaderModel", "init", "I", false)
  | 28 => ("ModuleLoaderModel", "leaves", "I", false)
  | 29 => ("ModuleLoaderModel", "guards", "I", false)
  | _ => ("ModuleLoaderModel", "pc", "I", false)
def kt_Model : Nat → FieldType := fun k => match k with
  | 0 => .int
  | 1 => .array (.int)
  | 2 => .boolean
  | 3 => .int
  | 4 => .array (.int)
  | 5 => .array (.int)
  | 6 => .array (.int)
  | 7 => .array (.int)
  | 8 => .array (.boolean)
  | 9 => .array (.int)
  | 10 => .array (.int)
  | 11 => .array (.int)
  | 12 => .array (.int)
  | 13 => .array (.int)
  | 14 => .array (.boolean)
  | 15 => .int
  | 16 => .array (.int)
  | 17 => .int
  | 18 => .int
  | 19 => .int
  | 20 => .int
  | 21 => .int
  | 22 => .array (.int)
  | 23 => .int
  | 24 => .int
  | 25 => .int
  | 26 => .int
  | 27 => .int
  | 28 => .int
  | 29 => .int
  | _ => .int
def kr_Loader : String := "ModuleLoader"
def kf_Loader : u_T := fun k => match k with
  | 0 => ("ModuleLoader", "memory", "LModuleLoader$Memory;", true)
  | 1 => ("ModuleLoader", "machine", "LModuleLoader$Machine;", true)
  | 2 => ("ModuleLoader", "tape", "LModuleLoader$Tape;", true)
  | 3 => ("ModuleLoader", "file", "LModuleLoader$ModuleFile;", true)
  | 4 => ("ModuleLoader", "symbols", "LModuleLoader$SymbolTable;", true)
  | 5 => ("ModuleLoader", "modules", "LModuleLoader$ModuleTable;", true)
  | 6 => ("ModuleLoader", "report", "LModuleLoader$Report;", true)
  | _ => ("ModuleLoader", "sealed", "Z", false)
def kt_Loader : Nat → FieldType := fun k => match k with
  | 0 => .object "ModuleLoader$Memory"
  | 1 => .object "ModuleLoader$Machine"
  | 2 => .object "ModuleLoader$Tape"
  | 3 => .object "ModuleLoader$ModuleFile"
  | 4 => .object "ModuleLoader$SymbolTable"
  | 5 => .object "ModuleLoader$ModuleTable"
  | 6 => .object "ModuleLoader$Report"
  | _ => .boolean
def kr_Memory : String := "ModuleLoader$Memory"
def kf_Memory : u_T := fun k => match k with
  | 0 => ("ModuleLoader$Memory", "words", "[I", true)
  | _ => ("ModuleLoader$Memory", "guardedWords", "[Z", true)
def kt_Memory : Nat → FieldType := fun k => match k with
  | 0 => .array (.int)
  | _ => .array (.boolean)
def kr_Machine : String := "ModuleLoader$Machine"
def kf_Machine : u_T := fun k => match k with
  | 0 => ("ModuleLoader$Machine", "trap", "I", false)
  | 1 => ("ModuleLoader$Machine", "steps", "I", false)
  | 2 => ("ModuleLoader$Machine", "memory", "LModuleLoader$Memory;", true)
  | 3 => ("ModuleLoader$Machine", "registers", "[I", true)
  | _ => ("ModuleLoader$Machine", "next", "I", false)
def kt_Machine : Nat → FieldType := fun k => match k with
  | 0 => .int
  | 1 => .int
  | 2 => .object "ModuleLoader$Memory"
  | 3 => .array (.int)
  | _ => .int
def kr_Tape : String := "ModuleLoader$Tape"
def kf_Tape : u_T := fun k => match k with
  | 0 => ("ModuleLoader$Tape", "words", "[I", true)
  | _ => ("ModuleLoader$Tape", "used", "I", false)
def kt_Tape : Nat → FieldType := fun k => match k with
  | 0 => .array (.int)
  | _ => .int
def kr_ModuleFile : String := "ModuleLoader$ModuleFile"
def kf_ModuleFile : u_T := fun k => match k with
  | 0 => ("ModuleLoader$ModuleFile", "size", "I", false)
  | 1 => ("ModuleLoader$ModuleFile", "imports", "I", false)
  | 2 => ("ModuleLoader$ModuleFile", "exports", "I", false)
  | 3 => ("ModuleLoader$ModuleFile", "places", "I", false)
  | 4 => ("ModuleLoader$ModuleFile", "init", "I", false)
  | 5 => ("ModuleLoader$ModuleFile", "exit", "I", false)
  | 6 => ("ModuleLoader$ModuleFile", "guarded", "I", false)
  | 7 => ("ModuleLoader$ModuleFile", "tape", "LModuleLoader$Tape;", true)
  | 8 => ("ModuleLoader$ModuleFile", "importsStart", "I", false)
  | 9 => ("ModuleLoader$ModuleFile", "exportsStart", "I", false)
  | _ => ("ModuleLoader$ModuleFile", "placesStart", "I", false)
def kt_ModuleFile : Nat → FieldType := fun k => match k with
  | 0 => .int
  | 1 => .int
  | 2 => .int
  | 3 => .int
  | 4 => .int
  | 5 => .int
  | 6 => .int
  | 7 => .object "ModuleLoader$Tape"
  | 8 => .int
  | 9 => .int
  | _ => .int
def kr_SymbolTable : String := "ModuleLoader$SymbolTable"
def kf_SymbolTable : u_T := fun k => match k with
  | 0 => ("ModuleLoader$SymbolTable", "entries", "[LModuleLoader$Symbol;", true)
  | _ => ("ModuleLoader$SymbolTable", "used", "I", false)
def kt_SymbolTable : Nat → FieldType := fun k => match k with
  | 0 => .array (.object "ModuleLoader$Symbol")
  | _ => .int
def kr_Symbol : String := "ModuleLoader$Symbol"
def kf_Symbol : u_T := fun k => match k with
  | 0 => ("ModuleLoader$Symbol", "name", "I", true)
  | 1 => ("ModuleLoader$Symbol", "check", "I", true)
  | 2 => ("ModuleLoader$Symbol", "address", "I", true)
  | _ => ("ModuleLoader$Symbol", "owner", "LModuleLoader$LoadedModule;", true)
def kt_Symbol : Nat → FieldType := fun k => match k with
  | 0 => .int
  | 1 => .int
  | 2 => .int
  | _ => .object "ModuleLoader$LoadedModule"
def kr_ModuleTable : String := "ModuleLoader$ModuleTable"
def kf_ModuleTable : u_T := fun k => match k with
  | 0 => ("ModuleLoader$ModuleTable", "entries", "[LModuleLoader$LoadedModule;", true)
  | _ => ("ModuleLoader$ModuleTable", "used", "I", false)
def kt_ModuleTable : Nat → FieldType := fun k => match k with
  | 0 => .array (.object "ModuleLoader$LoadedModule")
  | _ => .int
def kr_LoadedModule : String := "ModuleLoader$LoadedModule"
def kf_LoadedModule : u_T := fun k => match k with
  | 0 => ("ModuleLoader$LoadedModule", "name", "I", true)
  | 1 => ("ModuleLoader$LoadedModule", "address", "I", true)
  | 2 => ("ModuleLoader$LoadedModule", "size", "I", true)
  | 3 => ("ModuleLoader$LoadedModule", "exports", "I", true)
  | 4 => ("ModuleLoader$LoadedModule", "exit", "I", true)
  | 5 => ("ModuleLoader$LoadedModule", "guarded", "I", true)
  | 6 => ("ModuleLoader$LoadedModule", "firstRow", "I", true)
  | 7 => ("ModuleLoader$LoadedModule", "rowBehind", "I", true)
  | 8 => ("ModuleLoader$LoadedModule", "needed", "[LModuleLoader$LoadedModule;", true)
  | _ => ("ModuleLoader$LoadedModule", "neededUsed", "I", false)
def kt_LoadedModule : Nat → FieldType := fun k => match k with
  | 0 => .int
  | 1 => .int
  | 2 => .int
  | 3 => .int
  | 4 => .int
  | 5 => .int
  | 6 => .int
  | 7 => .int
  | 8 => .array (.object "ModuleLoader$LoadedModule")
  | _ => .int
def kr_Report : String := "ModuleLoader$Report"
def kf_Report : u_T := fun k => match k with
  | 0 => ("ModuleLoader$Report", "number", "I", false)
  | 1 => ("ModuleLoader$Report", "which", "I", false)
  | 2 => ("ModuleLoader$Report", "trap", "I", false)
  | 3 => ("ModuleLoader$Report", "steps", "I", false)
  | _ => ("ModuleLoader$Report", "answer", "I", false)
def kt_Report : Nat → FieldType := fun k => match k with
  | 0 => .int
  | 1 => .int
  | 2 => .int
  | 3 => .int
  | _ => .int
abbrev xx_cls : List vw_C := [(kr_Model, kf_Model, 31), (kr_Loader, kf_Loader, 8), (kr_Memory, kf_Memory, 2), (kr_Machine, kf_Machine, 5), (kr_Tape, kf_Tape, 2), (kr_ModuleFile, kf_ModuleFile, 11), (kr_SymbolTable, kf_SymbolTable, 2), (kr_Symbol, kf_Symbol, 4), (kr_ModuleTable, kf_ModuleTable, 2), (kr_LoadedModule, kf_LoadedModule, 10), (kr_Report, kf_Report, 5)]
theorem kn_Model : ∀ a, a < 31 → ∀ b, b < 31 → a ≠ b → (kf_Model a).2.1 ≠ (kf_Model b).2.1 := by decide +kernel
theorem ko_Model : ∀ k, k < 31 → parseFieldDescriptor (kf_Model k).2.2.1 = some (kt_Model k) := by decide +kernel
theorem kn_Loader : ∀ a, a < 8 → ∀ b, b < 8 → a ≠ b → (kf_Loader a).2.1 ≠ (kf_Loader b).2.1 := by decide +kernel
theorem ko_Loader : ∀ k, k < 8 → parseFieldDescriptor (kf_Loader k).2.2.1 = some (kt_Loader k) := by decide +kernel
theorem kn_Memory : ∀ a, a < 2 → ∀ b, b < 2 → a ≠ b → (kf_Memory a).2.1 ≠ (kf_Memory b).2.1 := by decide +kernel
theorem ko_Memory : ∀ k, k < 2 → parseFieldDescriptor (kf_Memory k).2.2.1 = some (kt_Memory k) := by decide +kernel
theorem kn_Machine : ∀ a, a < 5 → ∀ b, b < 5 → a ≠ b → (kf_Machine a).2.1 ≠ (kf_Machine b).2.1 := by decide +kernel
theorem ko_Machine : ∀ k, k < 5 → parseFieldDescriptor (kf_Machine k).2.2.1 = some (kt_Machine k) := by decide +kernel
theorem kn_Tape : ∀ a, a < 2 → ∀ b, b < 2 → a ≠ b → (kf_Tape a).2.1 ≠ (kf_Tape b).2.1 := by decide +kernel
theorem ko_Tape : ∀ k, k < 2 → parseFieldDescriptor (kf_Tape k).2.2.1 = some (kt_Tape k) := by decide +kernel
theorem kn_ModuleFile : ∀ a, a < 11 → ∀ b, b < 11 → a ≠ b → (kf_ModuleFile a).2.1 ≠ (kf_ModuleFile b).2.1 := by decide +kernel
theorem ko_ModuleFile : ∀ k, k < 11 → parseFieldDescriptor (kf_ModuleFile k).2.2.1 = some (kt_ModuleFile k) := by decide +kernel
theorem kn_SymbolTable : ∀ a, a < 2 → ∀ b, b < 2 → a ≠ b → (kf_SymbolTable a).2.1 ≠ (kf_SymbolTable b).2.1 := by decide +kernel
theorem ko_SymbolTable : ∀ k, k < 2 → parseFieldDescriptor (kf_SymbolTable k).2.2.1 = some (kt_SymbolTable k) := by decide +kernel
theorem kn_Symbol : ∀ a, a < 4 → ∀ b, b < 4 → a ≠ b → (kf_Symbol a).2.1 ≠ (kf_Symbol b).2.1 := by decide +kernel
theorem ko_Symbol : ∀ k, k < 4 → parseFieldDescriptor (kf_Symbol k).2.2.1 = some (kt_Symbol k) := by decide +kernel
theorem kn_ModuleTable : ∀ a, a < 2 → ∀ b, b < 2 → a ≠ b → (kf_ModuleTable a).2.1 ≠ (kf_ModuleTable b).2.1 := by decide +kernel
theorem ko_ModuleTable : ∀ k, k < 2 → parseFieldDescriptor (kf_ModuleTable k).2.2.1 = some (kt_ModuleTable k) := by decide +kernel
theorem kn_LoadedModule : ∀ a, a < 10 → ∀ b, b < 10 → a ≠ b → (kf_LoadedModule a).2.1 ≠ (kf_LoadedModule b).2.1 := by decide +kernel
theorem ko_LoadedModule : ∀ k, k < 10 → parseFieldDescriptor (kf_LoadedModule k).2.2.1 = some (kt_LoadedModule k) := by decide +kernel
theorem kn_Report : ∀ a, a < 5 → ∀ b, b < 5 → a ≠ b → (kf_Report a).2.1 ≠ (kf_Report b).2.1 := by decide +kernel
theorem ko_Report : ∀ k, k < 5 → parseFieldDescriptor (kf_Report k).2.2.1 = some (kt_Report k) := by decide +kernel
theorem kw_904 : Cond.lays "ModuleLoaderModel" "ModuleLoaderModel" "thrown" "I" ∈ xx_tb := xx_in (List.mem_append_right _ (List.mem_of_getElem? (i := 904) (by decide +kernel))) (by decide +kernel)
theorem kw_906 : Cond.laysFinal "ModuleLoaderModel" "ModuleLoaderModel" "memory" "[I" ∈ xx_tb := xx_in (List.mem_append_right _ (List.mem_of_getElem? (i := 906) (by decide +kernel))) (by decide +kernel)
theorem kw_908 : Cond.lays "ModuleLoaderModel" "ModuleLoaderModel" "sealed" "Z" ∈ xx_tb := xx_in (List.mem_append_right _ (List.mem_of_getElem? (i := 908) (by decide +kernel))) (by decide +kernel)
theorem kw_910 : Cond.lays "ModuleLoaderModel" "ModuleLoaderModel" "symbols" "I" ∈ xx_tb := xx_in (List.mem_append_right _ (List.mem_of_getElem? (i := 910) (by decide +kernel))) (by decide +kernel)
theorem kw_912 : Cond.laysFinal "ModuleLoaderModel" "ModuleLoaderModel" "symbolName" "[I" ∈ xx_tb := xx_in (List.mem_append_right _ (List.mem_of_getElem? (i := 912) (by decide +kernel))) (by decide +kernel)
theorem kw_914 : Cond.laysFinal "ModuleLoaderModel" "ModuleLoaderModel" "symbolCheck" "[I" ∈ xx_tb := xx_in (List.mem_append_right _ (List.mem_of_getElem? (i := 914) (by decide +kernel))) (by decide +kernel)
theorem kw_916 : Cond.laysFinal "ModuleLoaderModel" "ModuleLoaderModel" "symbolAt" "[I" ∈ xx_tb := xx_in (List.mem_append_right _ (List.mem_of_getElem? (i := 916) (by decide +kernel))) (by decide +kernel)
theorem kw_918 : Cond.laysFinal "ModuleLoaderModel" "ModuleLoaderModel" "symbolOf" "[I" ∈ xx_tb := xx_in (List.mem_append_right _ (List.mem_of_getElem? (i := 918) (by decide +kernel))) (by decide +kernel)
theorem kw_920 : Cond.laysFinal "ModuleLoaderModel" "ModuleLoaderModel" "isModule" "[Z" ∈ xx_tb := xx_in (List.mem_append_right _ (List.mem_of_getElem? (i := 920) (by decide +kernel))) (by decide +kernel)
theorem kw_922 : Cond.laysFinal "ModuleLoaderModel" "ModuleLoaderModel" "moduleName" "[I" ∈ xx_tb := xx_in (List.mem_append_right _ (List.mem_of_getElem? (i := 922) (by decide +kernel))) (by decide +kernel)
theorem kw_924 : Cond.laysFinal "ModuleLoaderModel" "ModuleLoaderModel" "base" "[I" ∈ xx_tb := xx_in (List.mem_append_right _ (List.mem_of_getElem? (i := 924) (by decide +kernel))) (by decide +kernel)
theorem kw_926 : Cond.laysFinal "ModuleLoaderModel" "ModuleLoaderModel" "size" "[I" ∈ xx_tb := xx_in (List.mem_append_right _ (List.mem_of_getElem? (i := 926) (by decide +kernel))) (by decide +kernel)
theorem kw_928 : Cond.laysFinal "ModuleLoaderModel" "ModuleLoaderModel" "guard" "[I" ∈ xx_tb := xx_in (List.mem_append_right _ (List.mem_of_getElem? (i := 928) (by decide +kernel))) (by decide +kernel)
theorem kw_930 : Cond.laysFinal "ModuleLoaderModel" "ModuleLoaderModel" "exit" "[I" ∈ xx_tb := xx_in (List.mem_append_right _ (List.mem_of_getElem? (i := 930) (by decide +kernel))) (by decide +kernel)
theorem kw_932 : Cond.laysFinal "ModuleLoaderModel" "ModuleLoaderModel" "needs" "[Z" ∈ xx_tb := xx_in (List.mem_append_right _ (List.mem_of_getElem? (i := 932) (by decide +kernel))) (by decide +kernel)
theorem kw_934 : Cond.lays "ModuleLoaderModel" "ModuleLoaderModel" "taped" "I" ∈ xx_tb := xx_in (List.mem_append_right _ (List.mem_of_getElem? (i := 934) (by decide +kernel))) (by decide +kernel)
theorem kw_936 : Cond.laysFinal "ModuleLoaderModel" "ModuleLoaderModel" "tape" "[I" ∈ xx_tb := xx_in (List.mem_append_right _ (List.mem_of_getElem? (i := 936) (by decide +kernel))) (by decide +kernel)
theorem kw_938 : Cond.lays "ModuleLoaderModel" "ModuleLoaderModel" "fault" "I" ∈ xx_tb := xx_in (List.mem_append_right _ (List.mem_of_getElem? (i := 938) (by decide +kernel))) (by decide +kernel)
theorem kw_940 : Cond.lays "ModuleLoaderModel" "ModuleLoaderModel" "which" "I" ∈ xx_tb := xx_in (List.mem_append_right _ (List.mem_of_getElem? (i := 940) (by decide +kernel))) (by decide +kernel)
theorem kw_942 : Cond.lays "ModuleLoaderModel" "ModuleLoaderModel" "trap" "I" ∈ xx_tb := xx_in (List.mem_append_right _ (List.mem_of_getElem? (i := 942) (by decide +kernel))) (by decide +kernel)
theorem kw_944 : Cond.lays "ModuleLoaderModel" "ModuleLoaderModel" "made" "I" ∈ xx_tb := xx_in (List.mem_append_right _ (List.mem_of_getElem? (i := 944) (by decide +kernel))) (by decide +kernel)
theorem kw_946 : Cond.lays "ModuleLoaderModel" "ModuleLoaderModel" "returned" "I" ∈ xx_tb := xx_in (List.mem_append_right _ (List.mem_of_getElem? (i := 946) (by decide +kernel))) (by decide +kernel)
theorem kw_948 : Cond.laysFinal "ModuleLoaderModel" "ModuleLoaderModel" "registers" "[I" ∈ xx_tb := xx_in (List.mem_append_right _ (List.mem_of_getElem? (i := 948) (by decide +kernel))) (by decide +kernel)
theorem kw_950 : Cond.lays "ModuleLoaderModel" "ModuleLoaderModel" "imports" "I" ∈ xx_tb := xx_in (List.mem_append_right _ (List.mem_of_getElem? (i := 950) (by decide +kernel))) (by decide +kernel)
theorem kw_952 : Cond.lays "ModuleLoaderModel" "ModuleLoaderModel" "exports" "I" ∈ xx_tb := xx_in (List.mem_append_right _ (List.mem_of_getElem? (i := 952) (by decide +kernel))) (by decide +kernel)
theorem kw_954 : Cond.lays "ModuleLoaderModel" "ModuleLoaderModel" "places" "I" ∈ xx_tb := xx_in (List.mem_append_right _ (List.mem_of_getElem? (i := 954) (by decide +kernel))) (by decide +kernel)
theorem kw_956 : Cond.lays "ModuleLoaderModel" "ModuleLoaderModel" "length" "I" ∈ xx_tb := xx_in (List.mem_append_right _ (List.mem_of_getElem? (i := 956) (by decide +kernel))) (by decide +kernel)
theorem kw_958 : Cond.lays "ModuleLoaderModel" "ModuleLoaderModel" "init" "I" ∈ xx_tb := xx_in (List.mem_append_right _ (List.mem_of_getElem? (i := 958) (by decide +kernel))) (by decide +kernel)
theorem kw_960 : Cond.lays "ModuleLoaderModel" "ModuleLoaderModel" "leaves" "I" ∈ xx_tb := xx_in (List.mem_append_right _ (List.mem_of_getElem? (i := 960) (by decide +kernel))) (by decide +kernel)
theorem kw_962 : Cond.lays "ModuleLoaderModel" "ModuleLoaderModel" "guards" "I" ∈ xx_tb := xx_in (List.mem_append_right _ (List.mem_of_getElem? (i := 962) (by decide +kernel))) (by decide +kernel)
theorem kw_964 : Cond.lays "ModuleLoaderModel" "ModuleLoaderModel" "pc" "I" ∈ xx_tb := xx_in (List.mem_append_right _ (List.mem_of_getElem? (i := 964) (by decide +kernel))) (by decide +kernel)
theorem ki_Model : ∀ w ∈ u_ws kr_Model kf_Model 31, w ∈ xx_tb := by
  intro w hw
  obtain ⟨k, hk, rfl⟩ := List.mem_map.mp hw
  have hk := List.mem_range.mp hk
  match k, hk with
  | 0, _ => exact kw_904
  | 1, _ => exact kw_906
  | 2, _ => exact kw_908
  | 3, _ => exact kw_910
  | 4, _ => exact kw_912
  | 5, _ => exact kw_914
  | 6, _ => exact kw_916
  | 7, _ => exact kw_918
  | 8, _ => exact kw_920
  | 9, _ => exact kw_922
  | 10, _ => exact kw_924
  | 11, _ => exact kw_926
  | 12, _ => exact kw_928
  | 13, _ => exact kw_930
  | 14, _ => exact kw_932
  | 15, _ => exact kw_934
  | 16, _ => exact kw_936
  | 17, _ => exact kw_938
  | 18, _ => exact kw_940
  | 19, _ => exact kw_942
  | 20, _ => exact kw_944
  | 21, _ => exact kw_946
  | 22, _ => exact kw_948
  | 23, _ => exact kw_950
  | 24, _ => exact kw_952
  | 25, _ => exact kw_954
  | 26, _ => exact kw_956
  | 27, _ => exact kw_958
  | 28, _ => exact kw_960
  | 29, _ => exact kw_962
  | 30, _ => exact kw_964
  | n + 31, h => exact absurd h (by omega)
theorem kw_195 : Cond.laysFinal "ModuleLoader" "ModuleLoader" "memory" "LModuleLoader$Memory;" ∈ xx_tb := xx_in (List.mem_append_right _ (List.mem_of_getElem? (i := 195) (by decide +kernel))) (by decide +kernel)
theorem kw_197 : Cond.laysFinal "ModuleLoader" "ModuleLoader" "machine" "LModuleLoader$Machine;" ∈ xx_tb := xx_in (List.mem_append_right _ (List.mem_of_getElem? (i := 197) (by decide +kernel))) (by decide +kernel)
theorem kw_199 : Cond.laysFinal "ModuleLoader" "ModuleLoader" "tape" "LModuleLoader$Tape;" ∈ xx_tb := xx_in (List.mem_append_right _ (List.mem_of_getElem? (i := 199) (by decide +kernel))) (by decide +kernel)
theorem kw_201 : Cond.laysFinal "ModuleLoader" "ModuleLoader" "file" "LModuleLoader$ModuleFile;" ∈ xx_tb := xx_in (List.mem_append_right _ (List.mem_of_getElem? (i := 201) (by decide +kernel))) (by decide +kernel)
theorem kw_203 : Cond.laysFinal "ModuleLoader" "ModuleLoader" "symbols" "LModuleLoader$SymbolTable;" ∈ xx_tb := xx_in (List.mem_append_right _ (List.mem_of_getElem? (i := 203) (by decide +kernel))) (by decide +kernel)
theorem kw_205 : Cond.laysFinal "ModuleLoader" "ModuleLoader" "modules" "LModuleLoader$ModuleTable;" ∈ xx_tb := xx_in (List.mem_append_right _ (List.mem_of_getElem? (i := 205) (by decide +kernel))) (by decide +kernel)
theorem kw_207 : Cond.laysFinal "ModuleLoader" "ModuleLoader" "report" "LModuleLoader$Report;" ∈ xx_tb := xx_in (List.mem_append_right _ (List.mem_of_getElem? (i := 207) (by decide +kernel))) (by decide +kernel)
theorem kw_209 : Cond.lays "ModuleLoader" "ModuleLoader" "sealed" "Z" ∈ xx_tb := xx_in (List.mem_append_right _ (List.mem_of_getElem? (i := 209) (by decide +kernel))) (by decide +kernel)
theorem ki_Loader : ∀ w ∈ u_ws kr_Loader kf_Loader 8, w ∈ xx_tb := by
  intro w hw
  obtain ⟨k, hk, rfl⟩ := List.mem_map.mp hw
  have hk := List.mem_range.mp hk
  match k, hk with
  | 0, _ => exact kw_195
  | 1, _ => exact kw_197
  | 2, _ => exact kw_199
  | 3, _ => exact kw_201
  | 4, _ => exact kw_203
  | 5, _ => exact kw_205
  | 6, _ => exact kw_207
  | 7, _ => exact kw_209
  | n + 8, h => exact absurd h (by omega)
theorem kw_37 : Cond.laysFinal "ModuleLoader$Memory" "ModuleLoader$Memory" "words" "[I" ∈ xx_tb := xx_in (List.mem_append_right _ (List.mem_of_getElem? (i := 37) (by decide +kernel))) (by decide +kernel)
theorem kw_39 : Cond.laysFinal "ModuleLoader$Memory" "ModuleLoader$Memory" "guardedWords" "[Z" ∈ xx_tb := xx_in (List.mem_append_right _ (List.mem_of_getElem? (i := 39) (by decide +kernel))) (by decide +kernel)
theorem ki_Memory : ∀ w ∈ u_ws kr_Memory kf_Memory 2, w ∈ xx_tb := by
  intro w hw
  obtain ⟨k, hk, rfl⟩ := List.mem_map.mp hw
  have hk := List.mem_range.mp hk
  match k, hk with
  | 0, _ => exact kw_37
  | 1, _ => exact kw_39
  | n + 2, h => exact absurd h (by omega)
theorem kw_57 : Cond.lays "ModuleLoader$Machine" "ModuleLoader$Machine" "trap" "I" ∈ xx_tb := xx_in (List.mem_append_right _ (List.mem_of_getElem? (i := 57) (by decide +kernel))) (by decide +kernel)
theorem kw_59 : Cond.lays "ModuleLoader$Machine" "ModuleLoader$Machine" "steps" "I" ∈ xx_tb := xx_in (List.mem_append_right _ (List.mem_of_getElem? (i := 59) (by decide +kernel))) (by decide +kernel)
theorem kw_61 : Cond.laysFinal "ModuleLoader$Machine" "ModuleLoader$Machine" "memory" "LModuleLoader$Memory;" ∈ xx_tb := xx_in (List.mem_append_right _ (List.mem_of_getElem? (i := 61) (by decide +kernel))) (by decide +kernel)
theorem kw_63 : Cond.laysFinal "ModuleLoader$Machine" "ModuleLoader$Machine" "registers" "[I" ∈ xx_tb := xx_in (List.mem_append_right _ (List.mem_of_getElem? (i := 63) (by decide +kernel))) (by decide +kernel)
theorem kw_65 : Cond.lays "ModuleLoader$Machine" "ModuleLoader$Machine" "next" "I" ∈ xx_tb := xx_in (List.mem_append_right _ (List.mem_of_getElem? (i := 65) (by decide +kernel))) (by decide +kernel)
theorem ki_Machine : ∀ w ∈ u_ws kr_Machine kf_Machine 5, w ∈ xx_tb := by
  intro w hw
  obtain ⟨k, hk, rfl⟩ := List.mem_map.mp hw
  have hk := List.mem_range.mp hk
  match k, hk with
  | 0, _ => exact kw_57
  | 1, _ => exact kw_59
  | 2, _ => exact kw_61
  | 3, _ => exact kw_63
  | 4, _ => exact kw_65
  | n + 5, h => exact absurd h (by omega)
theorem kw_76 : Cond.laysFinal "ModuleLoader$Tape" "ModuleLoader$Tape" "words" "[I" ∈ xx_tb := xx_in (List.mem_append_right _ (List.mem_of_getElem? (i := 76) (by decide +kernel))) (by decide +kernel)
theorem kw_78 : Cond.lays "ModuleLoader$Tape" "ModuleLoader$Tape" "used" "I" ∈ xx_tb := xx_in (List.mem_append_right _ (List.mem_of_getElem? (i := 78) (by decide +kernel))) (by decide +kernel)
theorem ki_Tape : ∀ w ∈ u_ws kr_Tape kf_Tape 2, w ∈ xx_tb := by
  intro w hw
  obtain ⟨k, hk, rfl⟩ := List.mem_map.mp hw
  have hk := List.mem_range.mp hk
  match k, hk with
  | 0, _ => exact kw_76
  | 1, _ => exact kw_78
  | n + 2, h => exact absurd h (by omega)
theorem kw_107 : Cond.lays "ModuleLoader$ModuleFile" "ModuleLoader$ModuleFile" "size" "I" ∈ xx_tb := xx_in (List.mem_append_right _ (List.mem_of_getElem? (i := 107) (by decide +kernel))) (by decide +kernel)
theorem kw_109 : Cond.lays "ModuleLoader$ModuleFile" "ModuleLoader$ModuleFile" "imports" "I" ∈ xx_tb := xx_in (List.mem_append_right _ (List.mem_of_getElem? (i := 109) (by decide +kernel))) (by decide +kernel)
theorem kw_111 : Cond.lays "ModuleLoader$ModuleFile" "ModuleLoader$ModuleFile" "exports" "I" ∈ xx_tb := xx_in (List.mem_append_right _ (List.mem_of_getElem? (i := 111) (by decide +kernel))) (by decide +kernel)
theorem kw_113 : Cond.lays "ModuleLoader$ModuleFile" "ModuleLoader$ModuleFile" "places" "I" ∈ xx_tb := xx_in (List.mem_append_right _ (List.mem_of_getElem? (i := 113) (by decide +kernel))) (by decide +kernel)
theorem kw_115 : Cond.lays "ModuleLoader$ModuleFile" "ModuleLoader$ModuleFile" "init" "I" ∈ xx_tb := xx_in (List.mem_append_right _ (List.mem_of_getElem? (i := 115) (by decide +kernel))) (by decide +kernel)
theorem kw_117 : Cond.lays "ModuleLoader$ModuleFile" "ModuleLoader$ModuleFile" "exit" "I" ∈ xx_tb := xx_in (List.mem_append_right _ (List.mem_of_getElem? (i := 117) (by decide +kernel))) (by decide +kernel)
theorem kw_119 : Cond.lays "ModuleLoader$ModuleFile" "ModuleLoader$ModuleFile" "guarded" "I" ∈ xx_tb := xx_in (List.mem_append_right _ (List.mem_of_getElem? (i := 119) (by decide +kernel))) (by decide +kernel)
theorem kw_121 : Cond.laysFinal "ModuleLoader$ModuleFile" "ModuleLoader$ModuleFile" "tape" "LModuleLoader$Tape;" ∈ xx_tb := xx_in (List.mem_append_right _ (List.mem_of_getElem? (i := 121) (by decide +kernel))) (by decide +kernel)
theorem kw_123 : Cond.lays "ModuleLoader$ModuleFile" "ModuleLoader$ModuleFile" "importsStart" "I" ∈ xx_tb := xx_in (List.mem_append_right _ (List.mem_of_getElem? (i := 123) (by decide +kernel))) (by decide +kernel)
theorem kw_125 : Cond.lays "ModuleLoader$ModuleFile" "ModuleLoader$ModuleFile" "exportsStart" "I" ∈ xx_tb := xx_in (List.mem_append_right _ (List.mem_of_getElem? (i := 125) (by decide +kernel))) (by decide +kernel)
theorem kw_127 : Cond.lays "ModuleLoader$ModuleFile" "ModuleLoader$ModuleFile" "placesStart" "I" ∈ xx_tb := xx_in (List.mem_append_right _ (List.mem_of_getElem? (i := 127) (by decide +kernel))) (by decide +kernel)
theorem ki_ModuleFile : ∀ w ∈ u_ws kr_ModuleFile kf_ModuleFile 11, w ∈ xx_tb := by
  intro w hw
  obtain ⟨k, hk, rfl⟩ := List.mem_map.mp hw
  have hk := List.mem_range.mp hk
  match k, hk with
  | 0, _ => exact kw_107
  | 1, _ => exact kw_109
  | 2, _ => exact kw_111
  | 3, _ => exact kw_113
  | 4, _ => exact kw_115
  | 5, _ => exact kw_117
  | 6, _ => exact kw_119
  | 7, _ => exact kw_121
  | 8, _ => exact kw_123
  | 9, _ => exact kw_125
  | 10, _ => exact kw_127
  | n + 11, h => exact absurd h (by omega)
theorem kw_140 : Cond.laysFinal "ModuleLoader$SymbolTable" "ModuleLoader$SymbolTable" "entries" "[LModuleLoader$Symbol;" ∈ xx_tb := xx_in (List.mem_append_right _ (List.mem_of_getElem? (i := 140) (by decide +kernel))) (by decide +kernel)
theorem kw_142 : Cond.lays "ModuleLoader$SymbolTable" "ModuleLoader$SymbolTable" "used" "I" ∈ xx_tb := xx_in (List.mem_append_right _ (List.mem_of_getElem? (i := 142) (by decide +kernel))) (by decide +kernel)
theorem ki_SymbolTable : ∀ w ∈ u_ws kr_SymbolTable kf_SymbolTable 2, w ∈ xx_tb := by
  intro w hw
  obtain ⟨k, hk, rfl⟩ := List.mem_map.mp hw
  have hk := List.mem_range.mp hk
  match k, hk with
  | 0, _ => exact kw_140
  | 1, _ => exact kw_142
  | n + 2, h => exact absurd h (by omega)
theorem kw_471 : Cond.laysFinal "ModuleLoader$Symbol" "ModuleLoader$Symbol" "name" "I" ∈ xx_tb := xx_in (List.mem_append_right _ (List.mem_of_getElem? (i := 471) (by decide +kernel))) (by decide +kernel)
theorem kw_473 : Cond.laysFinal "ModuleLoader$Symbol" "ModuleLoader$Symbol" "check" "I" ∈ xx_tb := xx_in (List.mem_append_right _ (List.mem_of_getElem? (i := 473) (by decide +kernel))) (by decide +kernel)
theorem kw_475 : Cond.laysFinal "ModuleLoader$Symbol" "ModuleLoader$Symbol" "address" "I" ∈ xx_tb := xx_in (List.mem_append_right _ (List.mem_of_getElem? (i := 475) (by decide +kernel))) (by decide +kernel)
theorem kw_477 : Cond.laysFinal "ModuleLoader$Symbol" "ModuleLoader$Symbol" "owner" "LModuleLoader$LoadedModule;" ∈ xx_tb := xx_in (List.mem_append_right _ (List.mem_of_getElem? (i := 477) (by decide +kernel))) (by decide +kernel)
theorem ki_Symbol : ∀ w ∈ u_ws kr_Symbol kf_Symbol 4, w ∈ xx_tb := by
  intro w hw
  obtain ⟨k, hk, rfl⟩ := List.mem_map.mp hw
  have hk := List.mem_range.mp hk
  match k, hk with
  | 0, _ => exact kw_471
  | 1, _ => exact kw_473
  | 2, _ => exact kw_475
  | 3, _ => exact kw_477
  | n + 4, h => exact absurd h (by omega)
theorem kw_155 : Cond.laysFinal "ModuleLoader$ModuleTable" "ModuleLoader$ModuleTable" "entries" "[LModuleLoader$LoadedModule;" ∈ xx_tb := xx_in (List.mem_append_right _ (List.mem_of_getElem? (i := 155) (by decide +kernel))) (by decide +kernel)
theorem kw_157 : Cond.lays "ModuleLoader$ModuleTable" "ModuleLoader$ModuleTable" "used" "I" ∈ xx_tb := xx_in (List.mem_append_right _ (List.mem_of_getElem? (i := 157) (by decide +kernel))) (by decide +kernel)
theorem ki_ModuleTable : ∀ w ∈ u_ws kr_ModuleTable kf_ModuleTable 2, w ∈ xx_tb := by
  intro w hw
  obtain ⟨k, hk, rfl⟩ := List.mem_map.mp hw
  have hk := List.mem_range.mp hk
  match k, hk with
  | 0, _ => exact kw_155
  | 1, _ => exact kw_157
  | n + 2, h => exact absurd h (by omega)
theorem kw_694 : Cond.laysFinal "ModuleLoader$LoadedModule" "ModuleLoader$LoadedModule" "name" "I" ∈ xx_tb := xx_in (List.mem_append_right _ (List.mem_of_getElem? (i := 694) (by decide +kernel))) (by decide +kernel)
theorem kw_696 : Cond.laysFinal "ModuleLoader$LoadedModule" "ModuleLoader$LoadedModule" "address" "I" ∈ xx_tb := xx_in (List.mem_append_right _ (List.mem_of_getElem? (i := 696) (by decide +kernel))) (by decide +kernel)
theorem kw_698 : Cond.laysFinal "ModuleLoader$LoadedModule" "ModuleLoader$LoadedModule" "size" "I" ∈ xx_tb := xx_in (List.mem_append_right _ (List.mem_of_getElem? (i := 698) (by decide +kernel))) (by decide +kernel)
theorem kw_700 : Cond.laysFinal "ModuleLoader$LoadedModule" "ModuleLoader$LoadedModule" "exports" "I" ∈ xx_tb := xx_in (List.mem_append_right _ (List.mem_of_getElem? (i := 700) (by decide +kernel))) (by decide +kernel)
theorem kw_702 : Cond.laysFinal "ModuleLoader$LoadedModule" "ModuleLoader$LoadedModule" "exit" "I" ∈ xx_tb := xx_in (List.mem_append_right _ (List.mem_of_getElem? (i := 702) (by decide +kernel))) (by decide +kernel)
theorem kw_704 : Cond.laysFinal "ModuleLoader$LoadedModule" "ModuleLoader$LoadedModule" "guarded" "I" ∈ xx_tb := xx_in (List.mem_append_right _ (List.mem_of_getElem? (i := 704) (by decide +kernel))) (by decide +kernel)
theorem kw_706 : Cond.laysFinal "ModuleLoader$LoadedModule" "ModuleLoader$LoadedModule" "firstRow" "I" ∈ xx_tb := xx_in (List.mem_append_right _ (List.mem_of_getElem? (i := 706) (by decide +kernel))) (by decide +kernel)
theorem kw_708 : Cond.laysFinal "ModuleLoader$LoadedModule" "ModuleLoader$LoadedModule" "rowBehind" "I" ∈ xx_tb := xx_in (List.mem_append_right _ (List.mem_of_getElem? (i := 708) (by decide +kernel))) (by decide +kernel)
theorem kw_710 : Cond.laysFinal "ModuleLoader$LoadedModule" "ModuleLoader$LoadedModule" "needed" "[LModuleLoader$LoadedModule;" ∈ xx_tb := xx_in (List.mem_append_right _ (List.mem_of_getElem? (i := 710) (by decide +kernel))) (by decide +kernel)
theorem kw_712 : Cond.lays "ModuleLoader$LoadedModule" "ModuleLoader$LoadedModule" "neededUsed" "I" ∈ xx_tb := xx_in (List.mem_append_right _ (List.mem_of_getElem? (i := 712) (by decide +kernel))) (by decide +kernel)
theorem ki_LoadedModule : ∀ w ∈ u_ws kr_LoadedModule kf_LoadedModule 10, w ∈ xx_tb := by
  intro w hw
  obtain ⟨k, hk, rfl⟩ := List.mem_map.mp hw
  have hk := List.mem_range.mp hk
  match k, hk with
  | 0, _ => exact kw_694
  | 1, _ => exact kw_696
  | 2, _ => exact kw_698
  | 3, _ => exact kw_700
  | 4, _ => exact kw_702
  | 5, _ => exact kw_704
  | 6, _ => exact kw_706
  | 7, _ => exact kw_708
  | 8, _ => exact kw_710
  | 9, _ => exact kw_712
  | n + 10, h => exact absurd h (by omega)
theorem kw_176 : Cond.lays "ModuleLoader$Report" "ModuleLoader$Report" "number" "I" ∈ xx_tb := xx_in (List.mem_append_right _ (List.mem_of_getElem? (i := 176) (by decide +kernel))) (by decide +kernel)
theorem kw_178 : Cond.lays "ModuleLoader$Report" "ModuleLoader$Report" "which" "I" ∈ xx_tb := xx_in (List.mem_append_right _ (List.mem_of_getElem? (i := 178) (by decide +kernel))) (by decide +kernel)
theorem kw_180 : Cond.lays "ModuleLoader$Report" "ModuleLoader$Report" "trap" "I" ∈ xx_tb := xx_in (List.mem_append_right _ (List.mem_of_getElem? (i := 180) (by decide +kernel))) (by decide +kernel)
theorem kw_182 : Cond.lays "ModuleLoader$Report" "ModuleLoader$Report" "steps" "I" ∈ xx_tb := xx_in (List.mem_append_right _ (List.mem_of_getElem? (i := 182) (by decide +kernel))) (by decide +kernel)
theorem kw_184 : Cond.lays "ModuleLoader$Report" "ModuleLoader$Report" "answer" "I" ∈ xx_tb := xx_in (List.mem_append_right _ (List.mem_of_getElem? (i := 184) (by decide +kernel))) (by decide +kernel)
theorem ki_Report : ∀ w ∈ u_ws kr_Report kf_Report 5, w ∈ xx_tb := by
  intro w hw
  obtain ⟨k, hk, rfl⟩ := List.mem_map.mp hw
  have hk := List.mem_range.mp hk
  match k, hk with
  | 0, _ => exact kw_176
  | 1, _ => exact kw_178
  | 2, _ => exact kw_180
  | 3, _ => exact kw_182
  | 4, _ => exact kw_184
  | n + 5, h => exact absurd h (by omega)
def kr_Mender : String := "ModuleLoader$Mender"
abbrev kb_Loader_init : ByteArray := prog_1_method_1_code
def ky_Loader_init : MethodName := ⟨kr_Loader, "<init>", "()V"⟩
abbrev kb_Loader_poke : ByteArray := prog_1_method_2_code
def ky_Loader_poke : MethodName := ⟨kr_Loader, "poke", "(II)V"⟩
abbrev kb_Loader_seal : ByteArray := prog_1_method_3_code
def ky_Loader_seal : MethodName := ⟨kr_Loader, "seal", "()Z"⟩
abbrev kb_Loader_symbol : ByteArray := prog_1_method_4_code
def ky_Loader_symbol : MethodName := ⟨kr_Loader, "symbol", "(III)V"⟩
abbrev kb_Loader_feed : ByteArray := prog_1_method_5_code
def ky_Loader_feed : MethodName := ⟨kr_Loader, "feed", "(I)I"⟩
abbrev kb_Loader_feedByte : ByteArray := prog_1_method_6_code
def ky_Loader_feedByte : MethodName := ⟨kr_Loader, "feedByte", "(I)I"⟩
abbrev kb_Loader_load : ByteArray := prog_1_method_7_code
def ky_Loader_load : MethodName := ⟨kr_Loader, "load", "(II)I"⟩
abbrev kb_Loader_fault : ByteArray := prog_1_method_8_code
def ky_Loader_fault : MethodName := ⟨kr_Loader, "fault", "(I)I"⟩
abbrev kb_Loader_unload : ByteArray := prog_1_method_9_code
def ky_Loader_unload : MethodName := ⟨kr_Loader, "unload", "(II)V"⟩
abbrev kb_Loader_call : ByteArray := prog_1_method_10_code
def ky_Loader_call : MethodName := ⟨kr_Loader, "call", "(IIII)I"⟩
abbrev kb_Loader_peek : ByteArray := prog_1_method_11_code
def ky_Loader_peek : MethodName := ⟨kr_Loader, "peek", "(I)I"⟩
abbrev kb_Loader_isProtected : ByteArray := prog_1_method_12_code
def ky_Loader_isProtected : MethodName := ⟨kr_Loader, "isProtected", "(I)Z"⟩
abbrev kb_Loader_register : ByteArray := prog_1_method_13_code
def ky_Loader_register : MethodName := ⟨kr_Loader, "register", "(I)I"⟩
abbrev kb_Loader_lookup : ByteArray := prog_1_method_14_code
def ky_Loader_lookup : MethodName := ⟨kr_Loader, "lookup", "(II)I"⟩
abbrev kb_Loader_module : ByteArray := prog_1_method_15_code
def ky_Loader_module : MethodName := ⟨kr_Loader, "module", "(II)I"⟩
abbrev kb_Loader_count : ByteArray := prog_1_method_16_code
def ky_Loader_count : MethodName := ⟨kr_Loader, "count", "(I)I"⟩
abbrev kb_Loader_at : ByteArray := prog_1_method_17_code
def ky_Loader_at : MethodName := ⟨kr_Loader, "at", "(I)I"⟩
abbrev kb_Loader_isName : ByteArray := prog_1_method_18_code
def ky_Loader_isName : MethodName := ⟨kr_Loader, "isName", "(I)Z"⟩
abbrev kb_Loader_isFuel : ByteArray := prog_1_method_19_code
def ky_Loader_isFuel : MethodName := ⟨kr_Loader, "isFuel", "(I)Z"⟩
abbrev kb_Loader_isWordBelow : ByteArray := prog_1_method_20_code
def ky_Loader_isWordBelow : MethodName := ⟨kr_Loader, "isWordBelow", "(II)Z"⟩
abbrev kb_Loader_bringIn : ByteArray := prog_1_method_21_code
def ky_Loader_bringIn : MethodName := ⟨kr_Loader, "bringIn", "(I)LModuleLoader$LoadedModule;"⟩
abbrev kb_Loader_checkNames : ByteArray := prog_1_method_22_code
def ky_Loader_checkNames : MethodName := ⟨kr_Loader, "checkNames", "(I)V"⟩
abbrev kb_Loader_checkImports : ByteArray := prog_1_method_23_code
def ky_Loader_checkImports : MethodName := ⟨kr_Loader, "checkImports", "()V"⟩
abbrev kb_Loader_checkExports : ByteArray := prog_1_method_24_code
def ky_Loader_checkExports : MethodName := ⟨kr_Loader, "checkExports", "()V"⟩
abbrev kb_Loader_findRoom : ByteArray := prog_1_method_25_code
def ky_Loader_findRoom : MethodName := ⟨kr_Loader, "findRoom", "()I"⟩
abbrev kb_Loader_valueOf : ByteArray := prog_1_method_26_code
def ky_Loader_valueOf : MethodName := ⟨kr_Loader, "valueOf", "(II)I"⟩
abbrev kb_Loader_distanceOf : ByteArray := prog_1_method_27_code
def ky_Loader_distanceOf : MethodName := ⟨kr_Loader, "distanceOf", "(II)I"⟩
abbrev kb_Loader_enter : ByteArray := prog_1_method_28_code
def ky_Loader_enter : MethodName := ⟨kr_Loader, "enter", "(II)LModuleLoader$LoadedModule;"⟩
abbrev kb_Loader_writeImage : ByteArray := prog_1_method_29_code
def ky_Loader_writeImage : MethodName := ⟨kr_Loader, "writeImage", "(I)V"⟩
abbrev kb_Loader_judgeInit : ByteArray := prog_1_method_30_code
def ky_Loader_judgeInit : MethodName := ⟨kr_Loader, "judgeInit", "(LModuleLoader$LoadedModule;)V"⟩
abbrev kb_Loader_takeOut : ByteArray := prog_1_method_31_code
def ky_Loader_takeOut : MethodName := ⟨kr_Loader, "takeOut", "(LModuleLoader$LoadedModule;)V"⟩
abbrev kb_Loader_execute : ByteArray := prog_1_method_32_code
def ky_Loader_execute : MethodName := ⟨kr_Loader, "execute", "(IIII)V"⟩
abbrev kb_Model_init : ByteArray := prog_13_method_1_code
def ky_Model_init : MethodName := ⟨kr_Model, "<init>", "()V"⟩
abbrev kb_Model_thrown : ByteArray := prog_13_method_2_code
def ky_Model_thrown : MethodName := ⟨kr_Model, "thrown", "()I"⟩
abbrev kb_Model_byteAt : ByteArray := prog_13_method_3_code
def ky_Model_byteAt : MethodName := ⟨kr_Model, "byteAt", "(I)I"⟩
abbrev kb_Model_wordAt : ByteArray := prog_13_method_4_code
def ky_Model_wordAt : MethodName := ⟨kr_Model, "wordAt", "(I)I"⟩
abbrev kb_Model_put : ByteArray := prog_13_method_5_code
def ky_Model_put : MethodName := ⟨kr_Model, "put", "(III)V"⟩
abbrev kb_Model_guarded : ByteArray := prog_13_method_6_code
def ky_Model_guarded : MethodName := ⟨kr_Model, "guarded", "(I)Z"⟩
abbrev kb_Model_isProtected : ByteArray := prog_13_method_7_code
def ky_Model_isProtected : MethodName := ⟨kr_Model, "isProtected", "(I)Z"⟩
abbrev kb_Model_isWord : ByteArray := prog_13_method_8_code
def ky_Model_isWord : MethodName := ⟨kr_Model, "isWord", "(II)Z"⟩
abbrev kb_Model_poke : ByteArray := prog_13_method_9_code
def ky_Model_poke : MethodName := ⟨kr_Model, "poke", "(II)V"⟩
abbrev kb_Model_peek : ByteArray := prog_13_method_10_code
def ky_Model_peek : MethodName := ⟨kr_Model, "peek", "(I)I"⟩
abbrev kb_Model_seal : ByteArray := prog_13_method_11_code
def ky_Model_seal : MethodName := ⟨kr_Model, "seal", "()Z"⟩
abbrev kb_Model_isName : ByteArray := prog_13_method_12_code
def ky_Model_isName : MethodName := ⟨kr_Model, "isName", "(I)Z"⟩
abbrev kb_Model_find : ByteArray := prog_13_method_13_code
def ky_Model_find : MethodName := ⟨kr_Model, "find", "(I)I"⟩
abbrev kb_Model_numberOf : ByteArray := prog_13_method_14_code
def ky_Model_numberOf : MethodName := ⟨kr_Model, "numberOf", "(I)I"⟩
abbrev kb_Model_addSymbol : ByteArray := prog_13_method_15_code
def ky_Model_addSymbol : MethodName := ⟨kr_Model, "addSymbol", "(IIII)V"⟩
abbrev kb_Model_symbol : ByteArray := prog_13_method_16_code
def ky_Model_symbol : MethodName := ⟨kr_Model, "symbol", "(III)V"⟩
abbrev kb_Model_remove : ByteArray := prog_13_method_17_code
def ky_Model_remove : MethodName := ⟨kr_Model, "remove", "(I)V"⟩
abbrev kb_Model_feed : ByteArray := prog_13_method_18_code
def ky_Model_feed : MethodName := ⟨kr_Model, "feed", "(I)I"⟩
abbrev kb_Model_feedByte : ByteArray := prog_13_method_19_code
def ky_Model_feedByte : MethodName := ⟨kr_Model, "feedByte", "(I)I"⟩
abbrev kb_Model_tapeWord : ByteArray := prog_13_method_20_code
def ky_Model_tapeWord : MethodName := ⟨kr_Model, "tapeWord", "(I)I"⟩
abbrev kb_Model_isOffset : ByteArray := prog_13_method_21_code
def ky_Model_isOffset : MethodName := ⟨kr_Model, "isOffset", "(II)Z"⟩
abbrev kb_Model_importAt : ByteArray := prog_13_method_22_code
def ky_Model_importAt : MethodName := ⟨kr_Model, "importAt", "(I)I"⟩
abbrev kb_Model_exportAt : ByteArray := prog_13_method_23_code
def ky_Model_exportAt : MethodName := ⟨kr_Model, "exportAt", "(I)I"⟩
abbrev kb_Model_placeAt : ByteArray := prog_13_method_24_code
def ky_Model_placeAt : MethodName := ⟨kr_Model, "placeAt", "(I)I"⟩
abbrev kb_Model_isFile : ByteArray := prog_13_method_25_code
def ky_Model_isFile : MethodName := ⟨kr_Model, "isFile", "(I)Z"⟩
abbrev kb_Model_isRowFree : ByteArray := prog_13_method_26_code
def ky_Model_isRowFree : MethodName := ⟨kr_Model, "isRowFree", "(I)Z"⟩
abbrev kb_Model_room : ByteArray := prog_13_method_27_code
def ky_Model_room : MethodName := ⟨kr_Model, "room", "(I)I"⟩
abbrev kb_Model_wrong : ByteArray := prog_13_method_28_code
def ky_Model_wrong : MethodName := ⟨kr_Model, "wrong", "(II)Z"⟩
abbrev kb_Model_importsWrong : ByteArray := prog_13_method_29_code
def ky_Model_importsWrong : MethodName := ⟨kr_Model, "importsWrong", "()Z"⟩
abbrev kb_Model_exportsWrong : ByteArray := prog_13_method_30_code
def ky_Model_exportsWrong : MethodName := ⟨kr_Model, "exportsWrong", "()Z"⟩
abbrev kb_Model_mend : ByteArray := prog_13_method_31_code
def ky_Model_mend : MethodName := ⟨kr_Model, "mend", "(II)Z"⟩
abbrev kb_Model_fresh : ByteArray := prog_13_method_32_code
def ky_Model_fresh : MethodName := ⟨kr_Model, "fresh", "()V"⟩
abbrev kb_Model_load : ByteArray := prog_13_method_33_code
def ky_Model_load : MethodName := ⟨kr_Model, "load", "(II)I"⟩
abbrev kb_Model_bring : ByteArray := prog_13_method_34_code
def ky_Model_bring : MethodName := ⟨kr_Model, "bring", "(IIII)V"⟩
abbrev kb_Model_isNeeded : ByteArray := prog_13_method_35_code
def ky_Model_isNeeded : MethodName := ⟨kr_Model, "isNeeded", "(I)Z"⟩
abbrev kb_Model_unload : ByteArray := prog_13_method_36_code
def ky_Model_unload : MethodName := ⟨kr_Model, "unload", "(II)V"⟩
abbrev kb_Model_call : ByteArray := prog_13_method_37_code
def ky_Model_call : MethodName := ⟨kr_Model, "call", "(IIII)I"⟩
abbrev kb_Model_fault : ByteArray := prog_13_method_38_code
def ky_Model_fault : MethodName := ⟨kr_Model, "fault", "(I)I"⟩
abbrev kb_Model_runs : ByteArray := prog_13_method_39_code
def ky_Model_runs : MethodName := ⟨kr_Model, "runs", "(IIII)Z"⟩
abbrev kb_Model_bits : ByteArray := prog_13_method_40_code
def ky_Model_bits : MethodName := ⟨kr_Model, "bits", "(III)I"⟩
abbrev kb_Model_step : ByteArray := prog_13_method_41_code
def ky_Model_step : MethodName := ⟨kr_Model, "step", "()I"⟩
abbrev kb_Model_isBelow : ByteArray := prog_13_method_42_code
def ky_Model_isBelow : MethodName := ⟨kr_Model, "isBelow", "(II)Z"⟩
abbrev kb_Model_isSo : ByteArray := prog_13_method_43_code
def ky_Model_isSo : MethodName := ⟨kr_Model, "isSo", "(III)Z"⟩
abbrev kb_Model_reckon : ByteArray := prog_13_method_44_code
def ky_Model_reckon : MethodName := ⟨kr_Model, "reckon", "(IIIZ)I"⟩
abbrev kb_Model_access : ByteArray := prog_13_method_45_code
def ky_Model_access : MethodName := ⟨kr_Model, "access", "(II)I"⟩
abbrev kb_Model_fetch : ByteArray := prog_13_method_46_code
def ky_Model_fetch : MethodName := ⟨kr_Model, "fetch", "(III)I"⟩
abbrev kb_Model_store : ByteArray := prog_13_method_47_code
def ky_Model_store : MethodName := ⟨kr_Model, "store", "(III)I"⟩
abbrev kb_Model_register : ByteArray := prog_13_method_48_code
def ky_Model_register : MethodName := ⟨kr_Model, "register", "(I)I"⟩
abbrev kb_Model_lookup : ByteArray := prog_13_method_49_code
def ky_Model_lookup : MethodName := ⟨kr_Model, "lookup", "(II)I"⟩
abbrev kb_Model_module : ByteArray := prog_13_method_50_code
def ky_Model_module : MethodName := ⟨kr_Model, "module", "(II)I"⟩
abbrev kb_Model_count : ByteArray := prog_13_method_51_code
def ky_Model_count : MethodName := ⟨kr_Model, "count", "(I)I"⟩
abbrev kb_Model_at : ByteArray := prog_13_method_52_code
def ky_Model_at : MethodName := ⟨kr_Model, "at", "(I)I"⟩
abbrev kb_LoadedModule_init : ByteArray := prog_2_method_1_code
def ky_LoadedModule_init : MethodName := ⟨kr_LoadedModule, "<init>", "(IILModuleLoader$ModuleFile;)V"⟩
abbrev kb_LoadedModule_neededCount : ByteArray := prog_2_method_2_code
def ky_LoadedModule_neededCount : MethodName := ⟨kr_LoadedModule, "neededCount", "()I"⟩
abbrev kb_LoadedModule_needs : ByteArray := prog_2_method_3_code
def ky_LoadedModule_needs : MethodName := ⟨kr_LoadedModule, "needs", "(LModuleLoader$LoadedModule;)Z"⟩
abbrev kb_LoadedModule_need : ByteArray := prog_2_method_4_code
def ky_LoadedModule_need : MethodName := ⟨kr_LoadedModule, "need", "(LModuleLoader$LoadedModule;)V"⟩
abbrev kb_Machine_init : ByteArray := prog_3_method_1_code
def ky_Machine_init : MethodName := ⟨kr_Machine, "<init>", "(LModuleLoader$Memory;)V"⟩
abbrev kb_Machine_run : ByteArray := prog_3_method_2_code
def ky_Machine_run : MethodName := ⟨kr_Machine, "run", "(IIII)V"⟩
abbrev kb_Machine_hasReturned : ByteArray := prog_3_method_3_code
def ky_Machine_hasReturned : MethodName := ⟨kr_Machine, "hasReturned", "()Z"⟩
abbrev kb_Machine_registerAfterRun : ByteArray := prog_3_method_4_code
def ky_Machine_registerAfterRun : MethodName := ⟨kr_Machine, "registerAfterRun", "(I)I"⟩
abbrev kb_Machine_step : ByteArray := prog_3_method_5_code
def ky_Machine_step : MethodName := ⟨kr_Machine, "step", "()I"⟩
abbrev kb_Machine_finish : ByteArray := prog_3_method_6_code
def ky_Machine_finish : MethodName := ⟨kr_Machine, "finish", "(III)I"⟩
abbrev kb_Machine_firstOf : ByteArray := prog_3_method_7_code
def ky_Machine_firstOf : MethodName := ⟨kr_Machine, "firstOf", "(I)I"⟩
abbrev kb_Machine_secondOf : ByteArray := prog_3_method_8_code
def ky_Machine_secondOf : MethodName := ⟨kr_Machine, "secondOf", "(I)I"⟩
abbrev kb_Machine_kindOf : ByteArray := prog_3_method_9_code
def ky_Machine_kindOf : MethodName := ⟨kr_Machine, "kindOf", "(I)I"⟩
abbrev kb_Machine_jumpDistance : ByteArray := prog_3_method_10_code
def ky_Machine_jumpDistance : MethodName := ⟨kr_Machine, "jumpDistance", "(I)I"⟩
abbrev kb_Machine_branchDistance : ByteArray := prog_3_method_11_code
def ky_Machine_branchDistance : MethodName := ⟨kr_Machine, "branchDistance", "(I)I"⟩
abbrev kb_Machine_jumpToRegister : ByteArray := prog_3_method_12_code
def ky_Machine_jumpToRegister : MethodName := ⟨kr_Machine, "jumpToRegister", "(I)I"⟩
abbrev kb_Machine_branch : ByteArray := prog_3_method_13_code
def ky_Machine_branch : MethodName := ⟨kr_Machine, "branch", "(I)I"⟩
abbrev kb_Machine_compares : ByteArray := prog_3_method_14_code
def ky_Machine_compares : MethodName := ⟨kr_Machine, "compares", "(III)Z"⟩
abbrev kb_Machine_isBelow : ByteArray := prog_3_method_15_code
def ky_Machine_isBelow : MethodName := ⟨kr_Machine, "isBelow", "(II)Z"⟩
abbrev kb_Machine_trapOfAccess : ByteArray := prog_3_method_16_code
def ky_Machine_trapOfAccess : MethodName := ⟨kr_Machine, "trapOfAccess", "(II)I"⟩
abbrev kb_Machine_readMemory : ByteArray := prog_3_method_17_code
def ky_Machine_readMemory : MethodName := ⟨kr_Machine, "readMemory", "(I)I"⟩
abbrev kb_Machine_writeMemory : ByteArray := prog_3_method_18_code
def ky_Machine_writeMemory : MethodName := ⟨kr_Machine, "writeMemory", "(I)I"⟩
abbrev kb_Machine_computeWithImmediate : ByteArray := prog_3_method_19_code
def ky_Machine_computeWithImmediate : MethodName := ⟨kr_Machine, "computeWithImmediate", "(I)I"⟩
abbrev kb_Machine_computeWithRegister : ByteArray := prog_3_method_20_code
def ky_Machine_computeWithRegister : MethodName := ⟨kr_Machine, "computeWithRegister", "(I)I"⟩
abbrev kb_Machine_computed : ByteArray := prog_3_method_21_code
def ky_Machine_computed : MethodName := ⟨kr_Machine, "computed", "(IZII)I"⟩
abbrev kb_Memory_init : ByteArray := prog_4_method_1_code
def ky_Memory_init : MethodName := ⟨kr_Memory, "<init>", "()V"⟩
abbrev kb_Memory_holds : ByteArray := prog_4_method_2_code
def ky_Memory_holds : MethodName := ⟨kr_Memory, "holds", "(I)Z"⟩
abbrev kb_Memory_wordAt : ByteArray := prog_4_method_3_code
def ky_Memory_wordAt : MethodName := ⟨kr_Memory, "wordAt", "(I)I"⟩
abbrev kb_Memory_putWord : ByteArray := prog_4_method_4_code
def ky_Memory_putWord : MethodName := ⟨kr_Memory, "putWord", "(II)V"⟩
abbrev kb_Memory_partAt : ByteArray := prog_4_method_5_code
def ky_Memory_partAt : MethodName := ⟨kr_Memory, "partAt", "(II)I"⟩
abbrev kb_Memory_putPart : ByteArray := prog_4_method_6_code
def ky_Memory_putPart : MethodName := ⟨kr_Memory, "putPart", "(III)V"⟩
abbrev kb_Memory_isGuarded : ByteArray := prog_4_method_7_code
def ky_Memory_isGuarded : MethodName := ⟨kr_Memory, "isGuarded", "(I)Z"⟩
abbrev kb_Memory_guard : ByteArray := prog_4_method_8_code
def ky_Memory_guard : MethodName := ⟨kr_Memory, "guard", "(IIZ)V"⟩
abbrev kb_Memory_shiftOf : ByteArray := prog_4_method_9_code
def ky_Memory_shiftOf : MethodName := ⟨kr_Memory, "shiftOf", "(I)I"⟩
abbrev kb_Memory_maskOf : ByteArray := prog_4_method_10_code
def ky_Memory_maskOf : MethodName := ⟨kr_Memory, "maskOf", "(I)I"⟩
abbrev kb_Mender_isDistance : ByteArray := prog_5_method_2_code
def ky_Mender_isDistance : MethodName := ⟨kr_Mender, "isDistance", "(I)Z"⟩
abbrev kb_Mender_reaches : ByteArray := prog_5_method_3_code
def ky_Mender_reaches : MethodName := ⟨kr_Mender, "reaches", "(II)Z"⟩
abbrev kb_Mender_mended : ByteArray := prog_5_method_4_code
def ky_Mender_mended : MethodName := ⟨kr_Mender, "mended", "(III)I"⟩
abbrev kb_Mender_bits : ByteArray := prog_5_method_5_code
def ky_Mender_bits : MethodName := ⟨kr_Mender, "bits", "(III)I"⟩
abbrev kb_Mender_asInStore : ByteArray := prog_5_method_6_code
def ky_Mender_asInStore : MethodName := ⟨kr_Mender, "asInStore", "(I)I"⟩
abbrev kb_Mender_asInJump : ByteArray := prog_5_method_7_code
def ky_Mender_asInJump : MethodName := ⟨kr_Mender, "asInJump", "(I)I"⟩
abbrev kb_Mender_asInBranch : ByteArray := prog_5_method_8_code
def ky_Mender_asInBranch : MethodName := ⟨kr_Mender, "asInBranch", "(I)I"⟩
abbrev kb_ModuleFile_init : ByteArray := prog_6_method_1_code
def ky_ModuleFile_init : MethodName := ⟨kr_ModuleFile, "<init>", "(LModuleLoader$Tape;)V"⟩
abbrev kb_ModuleFile_read : ByteArray := prog_6_method_2_code
def ky_ModuleFile_read : MethodName := ⟨kr_ModuleFile, "read", "()Z"⟩
abbrev kb_ModuleFile_readHeader : ByteArray := prog_6_method_3_code
def ky_ModuleFile_readHeader : MethodName := ⟨kr_ModuleFile, "readHeader", "()V"⟩
abbrev kb_ModuleFile_headerHolds : ByteArray := prog_6_method_4_code
def ky_ModuleFile_headerHolds : MethodName := ⟨kr_ModuleFile, "headerHolds", "()Z"⟩
abbrev kb_ModuleFile_isUpTo : ByteArray := prog_6_method_5_code
def ky_ModuleFile_isUpTo : MethodName := ⟨kr_ModuleFile, "isUpTo", "(II)Z"⟩
abbrev kb_ModuleFile_isOffset : ByteArray := prog_6_method_6_code
def ky_ModuleFile_isOffset : MethodName := ⟨kr_ModuleFile, "isOffset", "(I)Z"⟩
abbrev kb_ModuleFile_importsHold : ByteArray := prog_6_method_7_code
def ky_ModuleFile_importsHold : MethodName := ⟨kr_ModuleFile, "importsHold", "()Z"⟩
abbrev kb_ModuleFile_exportsHold : ByteArray := prog_6_method_8_code
def ky_ModuleFile_exportsHold : MethodName := ⟨kr_ModuleFile, "exportsHold", "()Z"⟩
abbrev kb_ModuleFile_isExportedBefore : ByteArray := prog_6_method_9_code
def ky_ModuleFile_isExportedBefore : MethodName := ⟨kr_ModuleFile, "isExportedBefore", "(I)Z"⟩
abbrev kb_ModuleFile_placesHold : ByteArray := prog_6_method_10_code
def ky_ModuleFile_placesHold : MethodName := ⟨kr_ModuleFile, "placesHold", "()Z"⟩
abbrev kb_ModuleFile_imageWord : ByteArray := prog_6_method_11_code
def ky_ModuleFile_imageWord : MethodName := ⟨kr_ModuleFile, "imageWord", "(I)I"⟩
abbrev kb_ModuleFile_importName : ByteArray := prog_6_method_12_code
def ky_ModuleFile_importName : MethodName := ⟨kr_ModuleFile, "importName", "(I)I"⟩
abbrev kb_ModuleFile_importCheck : ByteArray := prog_6_method_13_code
def ky_ModuleFile_importCheck : MethodName := ⟨kr_ModuleFile, "importCheck", "(I)I"⟩
abbrev kb_ModuleFile_exportName : ByteArray := prog_6_method_14_code
def ky_ModuleFile_exportName : MethodName := ⟨kr_ModuleFile, "exportName", "(I)I"⟩
abbrev kb_ModuleFile_exportCheck : ByteArray := prog_6_method_15_code
def ky_ModuleFile_exportCheck : MethodName := ⟨kr_ModuleFile, "exportCheck", "(I)I"⟩
abbrev kb_ModuleFile_exportOffset : ByteArray := prog_6_method_16_code
def ky_ModuleFile_exportOffset : MethodName := ⟨kr_ModuleFile, "exportOffset", "(I)I"⟩
abbrev kb_ModuleFile_placeKind : ByteArray := prog_6_method_17_code
def ky_ModuleFile_placeKind : MethodName := ⟨kr_ModuleFile, "placeKind", "(I)I"⟩
abbrev kb_ModuleFile_placeOffset : ByteArray := prog_6_method_18_code
def ky_ModuleFile_placeOffset : MethodName := ⟨kr_ModuleFile, "placeOffset", "(I)I"⟩
abbrev kb_ModuleFile_placeSource : ByteArray := prog_6_method_19_code
def ky_ModuleFile_placeSource : MethodName := ⟨kr_ModuleFile, "placeSource", "(I)I"⟩
abbrev kb_ModuleFile_placeAddend : ByteArray := prog_6_method_20_code
def ky_ModuleFile_placeAddend : MethodName := ⟨kr_ModuleFile, "placeAddend", "(I)I"⟩
abbrev kb_ModuleTable_init : ByteArray := prog_7_method_1_code
def ky_ModuleTable_init : MethodName := ⟨kr_ModuleTable, "<init>", "()V"⟩
abbrev kb_ModuleTable_rowsFor : ByteArray := prog_7_method_2_code
def ky_ModuleTable_rowsFor : MethodName := ⟨kr_ModuleTable, "rowsFor", "(I)I"⟩
abbrev kb_ModuleTable_size : ByteArray := prog_7_method_3_code
def ky_ModuleTable_size : MethodName := ⟨kr_ModuleTable, "size", "()I"⟩
abbrev kb_ModuleTable_isFull : ByteArray := prog_7_method_4_code
def ky_ModuleTable_isFull : MethodName := ⟨kr_ModuleTable, "isFull", "()Z"⟩
abbrev kb_ModuleTable_get : ByteArray := prog_7_method_5_code
def ky_ModuleTable_get : MethodName := ⟨kr_ModuleTable, "get", "(I)LModuleLoader$LoadedModule;"⟩
abbrev kb_ModuleTable_find : ByteArray := prog_7_method_6_code
def ky_ModuleTable_find : MethodName := ⟨kr_ModuleTable, "find", "(I)LModuleLoader$LoadedModule;"⟩
abbrev kb_ModuleTable_howManyNeed : ByteArray := prog_7_method_7_code
def ky_ModuleTable_howManyNeed : MethodName := ⟨kr_ModuleTable, "howManyNeed", "(LModuleLoader$LoadedModule;)I"⟩
abbrev kb_ModuleTable_insert : ByteArray := prog_7_method_8_code
def ky_ModuleTable_insert : MethodName := ⟨kr_ModuleTable, "insert", "(LModuleLoader$LoadedModule;)V"⟩
abbrev kb_ModuleTable_remove : ByteArray := prog_7_method_9_code
def ky_ModuleTable_remove : MethodName := ⟨kr_ModuleTable, "remove", "(LModuleLoader$LoadedModule;)V"⟩
abbrev kb_ModuleTable_gapStart : ByteArray := prog_7_method_10_code
def ky_ModuleTable_gapStart : MethodName := ⟨kr_ModuleTable, "gapStart", "(I)I"⟩
abbrev kb_ModuleTable_gapRows : ByteArray := prog_7_method_11_code
def ky_ModuleTable_gapRows : MethodName := ⟨kr_ModuleTable, "gapRows", "(I)I"⟩
abbrev kb_ModuleTable_firstFit : ByteArray := prog_7_method_12_code
def ky_ModuleTable_firstFit : MethodName := ⟨kr_ModuleTable, "firstFit", "(I)I"⟩
abbrev kb_ModuleTable_freeRows : ByteArray := prog_7_method_13_code
def ky_ModuleTable_freeRows : MethodName := ⟨kr_ModuleTable, "freeRows", "()I"⟩
abbrev kb_ModuleTable_longestGap : ByteArray := prog_7_method_14_code
def ky_ModuleTable_longestGap : MethodName := ⟨kr_ModuleTable, "longestGap", "()I"⟩
abbrev kb_Report_init : ByteArray := prog_8_method_1_code
def ky_Report_init : MethodName := ⟨kr_Report, "<init>", "()V"⟩
abbrev kb_Report_clear : ByteArray := prog_8_method_2_code
def ky_Report_clear : MethodName := ⟨kr_Report, "clear", "()V"⟩
abbrev kb_Report_blame : ByteArray := prog_8_method_3_code
def ky_Report_blame : MethodName := ⟨kr_Report, "blame", "(II)V"⟩
abbrev kb_Report_hasFault : ByteArray := prog_8_method_4_code
def ky_Report_hasFault : MethodName := ⟨kr_Report, "hasFault", "()Z"⟩
abbrev kb_Symbol_init : ByteArray := prog_9_method_1_code
def ky_Symbol_init : MethodName := ⟨kr_Symbol, "<init>", "(IIILModuleLoader$LoadedModule;)V"⟩
abbrev kb_SymbolTable_init : ByteArray := prog_10_method_1_code
def ky_SymbolTable_init : MethodName := ⟨kr_SymbolTable, "<init>", "()V"⟩
abbrev kb_SymbolTable_size : ByteArray := prog_10_method_2_code
def ky_SymbolTable_size : MethodName := ⟨kr_SymbolTable, "size", "()I"⟩
abbrev kb_SymbolTable_unused : ByteArray := prog_10_method_3_code
def ky_SymbolTable_unused : MethodName := ⟨kr_SymbolTable, "unused", "()I"⟩
abbrev kb_SymbolTable_find : ByteArray := prog_10_method_4_code
def ky_SymbolTable_find : MethodName := ⟨kr_SymbolTable, "find", "(I)LModuleLoader$Symbol;"⟩
abbrev kb_SymbolTable_add : ByteArray := prog_10_method_5_code
def ky_SymbolTable_add : MethodName := ⟨kr_SymbolTable, "add", "(LModuleLoader$Symbol;)V"⟩
abbrev kb_SymbolTable_removeOf : ByteArray := prog_10_method_6_code
def ky_SymbolTable_removeOf : MethodName := ⟨kr_SymbolTable, "removeOf", "(LModuleLoader$LoadedModule;)V"⟩
abbrev kb_Tape_init : ByteArray := prog_11_method_1_code
def ky_Tape_init : MethodName := ⟨kr_Tape, "<init>", "()V"⟩
abbrev kb_Tape_length : ByteArray := prog_11_method_2_code
def ky_Tape_length : MethodName := ⟨kr_Tape, "length", "()I"⟩
abbrev kb_Tape_clear : ByteArray := prog_11_method_3_code
def ky_Tape_clear : MethodName := ⟨kr_Tape, "clear", "()V"⟩
abbrev kb_Tape_append : ByteArray := prog_11_method_4_code
def ky_Tape_append : MethodName := ⟨kr_Tape, "append", "(II)Z"⟩
abbrev kb_Tape_appendByte : ByteArray := prog_11_method_5_code
def ky_Tape_appendByte : MethodName := ⟨kr_Tape, "appendByte", "(I)V"⟩
abbrev kb_Tape_wordAt : ByteArray := prog_11_method_6_code
def ky_Tape_wordAt : MethodName := ⟨kr_Tape, "wordAt", "(I)I"⟩
