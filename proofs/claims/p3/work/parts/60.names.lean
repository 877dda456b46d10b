/-! names and fields, by program -/
def zC_0 : String := "ToolMillModel"
def zT_0 : u_T := fun k => match k with
  | 0 => ("ToolMillModel", "thrown", "I", false)
  | 1 => ("ToolMillModel", "signs", "[I", true)
  | 2 => ("ToolMillModel", "size", "I", false)
  | 3 => ("ToolMillModel", "names", "I", false)
  | 4 => ("ToolMillModel", "nameA", "[J", true)
  | 5 => ("ToolMillModel", "nameB", "[J", true)
  | 6 => ("ToolMillModel", "nameTable", "[I", true)
  | 7 => ("ToolMillModel", "faultKind", "I", false)
  | 8 => ("ToolMillModel", "faultPlace", "I", false)
  | 9 => ("ToolMillModel", "faultUnit", "I", false)
  | 10 => ("ToolMillModel", "units", "I", false)
  | 11 => ("ToolMillModel", "isSource", "[Z", true)
  | 12 => ("ToolMillModel", "typed", "[B", true)
  | 13 => ("ToolMillModel", "typedSize", "[I", true)
  | 14 => ("ToolMillModel", "sections", "[I", true)
  | 15 => ("ToolMillModel", "sectionName", "[I", true)
  | 16 => ("ToolMillModel", "sectionData", "[Z", true)
  | 17 => ("ToolMillModel", "sectionSize", "[I", true)
  | 18 => ("ToolMillModel", "sectionAlign", "[I", true)
  | 19 => ("ToolMillModel", "sectionFrom", "[I", true)
  | 20 => ("ToolMillModel", "sectionAddress", "[I", true)
  | 21 => ("ToolMillModel", "sectionReached", "[Z", true)
  | 22 => ("ToolMillModel", "objects", "[B", true)
  | 23 => ("ToolMillModel", "labels", "[I", true)
  | 24 => ("ToolMillModel", "labelName", "[I", true)
  | 25 => ("ToolMillModel", "labelSection", "[I", true)
  | 26 => ("ToolMillModel", "labelPlace", "[I", true)
  | 27 => ("ToolMillModel", "labelLine", "[I", true)
  | 28 => ("ToolMillModel", "labelGlobal", "[Z", true)
  | 29 => ("ToolMillModel", "labelKind", "[I", true)
  | 30 => ("ToolMillModel", "relocations", "[I", true)
  | 31 => ("ToolMillModel", "relSection", "[I", true)
  | 32 => ("ToolMillModel", "relPlace", "[I", true)
  | 33 => ("ToolMillModel", "relSort", "[I", true)
  | 34 => ("ToolMillModel", "relTarget", "[I", true)
  | 35 => ("ToolMillModel", "relNumber", "[I", true)
  | 36 => ("ToolMillModel", "relName", "[I", true)
  | 37 => ("ToolMillModel", "relLine", "[I", true)
  | 38 => ("ToolMillModel", "wants", "[I", true)
  | 39 => ("ToolMillModel", "wantName", "[I", true)
  | 40 => ("ToolMillModel", "wantKind", "[I", true)
  | 41 => ("ToolMillModel", "wantLine", "[I", true)
  | 42 => ("ToolMillModel", "steps", "[I", true)
  | 43 => ("ToolMillModel", "stepWhat", "[I", true)
  | 44 => ("ToolMillModel", "stepA", "[I", true)
  | 45 => ("ToolMillModel", "stepB", "[I", true)
  | 46 => ("ToolMillModel", "stepC", "[I", true)
  | 47 => ("ToolMillModel", "stepD", "[I", true)
  | 48 => ("ToolMillModel", "declared", "[I", true)
  | 49 => ("ToolMillModel", "declName", "[I", true)
  | 50 => ("ToolMillModel", "declKind", "[I", true)
  | 51 => ("ToolMillModel", "declSize", "[I", true)
  | 52 => ("ToolMillModel", "declStep", "[I", true)
  | 53 => ("ToolMillModel", "declWords", "[I", true)
  | 54 => ("ToolMillModel", "declDeep", "[I", true)
  | 55 => ("ToolMillModel", "keptName", "[I", true)
  | 56 => ("ToolMillModel", "tokens", "I", false)
  | 57 => ("ToolMillModel", "tokenKind", "[I", true)
  | 58 => ("ToolMillModel", "tokenAt", "[I", true)
  | 59 => ("ToolMillModel", "tokenValue", "[I", true)
  | 60 => ("ToolMillModel", "p", "I", false)
  | 61 => ("ToolMillModel", "stop", "Z", false)
  | 62 => ("ToolMillModel", "worst", "[I", true)
  | 63 => ("ToolMillModel", "unit", "I", false)
  | 64 => ("ToolMillModel", "open", "I", false)
  | 65 => ("ToolMillModel", "locals", "I", false)
  | 66 => ("ToolMillModel", "localName", "[I", true)
  | 67 => ("ToolMillModel", "localSize", "[I", true)
  | 68 => ("ToolMillModel", "localPlace", "[I", true)
  | 69 => ("ToolMillModel", "visible", "I", false)
  | 70 => ("ToolMillModel", "visibleOne", "[I", true)
  | 71 => ("ToolMillModel", "words", "I", false)
  | 72 => ("ToolMillModel", "deepest", "I", false)
  | 73 => ("ToolMillModel", "uses0", "I", false)
  | 74 => ("ToolMillModel", "useName", "[I", true)
  | 75 => ("ToolMillModel", "useKind", "[I", true)
  | 76 => ("ToolMillModel", "usePlace", "[I", true)
  | 77 => ("ToolMillModel", "declPlace", "[I", true)
  | 78 => ("ToolMillModel", "freshName", "[I", true)
  | 79 => ("ToolMillModel", "freshKind", "[I", true)
  | 80 => ("ToolMillModel", "freshSize", "[I", true)
  | 81 => ("ToolMillModel", "freshStep", "[I", true)
  | 82 => ("ToolMillModel", "freshWords", "[I", true)
  | 83 => ("ToolMillModel", "freshDeep", "[I", true)
  | 84 => ("ToolMillModel", "fresh", "I", false)
  | 85 => ("ToolMillModel", "contexts", "I", false)
  | 86 => ("ToolMillModel", "cxKind", "[I", true)
  | 87 => ("ToolMillModel", "cxDepth", "[I", true)
  | 88 => ("ToolMillModel", "cxSum", "[I", true)
  | 89 => ("ToolMillModel", "cxProduct", "[I", true)
  | 90 => ("ToolMillModel", "cxCompare", "[I", true)
  | 91 => ("ToolMillModel", "cxPlus", "[I", true)
  | 92 => ("ToolMillModel", "cxTimes", "[I", true)
  | 93 => ("ToolMillModel", "cxUnary", "[I", true)
  | 94 => ("ToolMillModel", "cxName", "[I", true)
  | 95 => ("ToolMillModel", "cxPlace", "[I", true)
  | 96 => ("ToolMillModel", "cxCount", "[I", true)
  | 97 => ("ToolMillModel", "cxOwn", "[I", true)
  | 98 => ("ToolMillModel", "cxAlone", "[Z", true)
  | 99 => ("ToolMillModel", "unaries", "I", false)
  | 100 => ("ToolMillModel", "unary", "[I", true)
  | 101 => ("ToolMillModel", "unaryDepth", "[I", true)
  | 102 => ("ToolMillModel", "blocks", "I", false)
  | 103 => ("ToolMillModel", "blockKind", "[I", true)
  | 104 => ("ToolMillModel", "blockVisible", "[I", true)
  | 105 => ("ToolMillModel", "outers", "I", false)
  | 106 => ("ToolMillModel", "outerName", "[I", true)
  | 107 => ("ToolMillModel", "outerKind", "[I", true)
  | 108 => ("ToolMillModel", "full", "Z", false)
  | 109 => ("ToolMillModel", "labelsTaken", "I", false)
  | 110 => ("ToolMillModel", "jumps", "I", false)
  | 111 => ("ToolMillModel", "jumpOne", "[I", true)
  | 112 => ("ToolMillModel", "jumpTwo", "[I", true)
  | 113 => ("ToolMillModel", "atIndex", "I", false)
  | 114 => ("ToolMillModel", "atEnd", "I", false)
  | 115 => ("ToolMillModel", "codes", "[I", true)
  | 116 => ("ToolMillModel", "fromTyped", "Z", false)
  | 117 => ("ToolMillModel", "target", "I", false)
  | 118 => ("ToolMillModel", "sourceSize", "I", false)
  | 119 => ("ToolMillModel", "lines", "I", false)
  | 120 => ("ToolMillModel", "lineFrom", "[I", true)
  | 121 => ("ToolMillModel", "lineTo", "[I", true)
  | 122 => ("ToolMillModel", "asmKind", "I", false)
  | 123 => ("ToolMillModel", "asmLine", "I", false)
  | 124 => ("ToolMillModel", "outerLine", "I", false)
  | 125 => ("ToolMillModel", "cameLines", "I", false)
  | 126 => ("ToolMillModel", "calledMacros", "I", false)
  | 127 => ("ToolMillModel", "curSize", "I", false)
  | 128 => ("ToolMillModel", "cur", "[I", true)
  | 129 => ("ToolMillModel", "q", "I", false)
  | 130 => ("ToolMillModel", "ok", "Z", false)
  | 131 => ("ToolMillModel", "frames", "I", false)
  | 132 => ("ToolMillModel", "frameFrom", "[I", true)
  | 133 => ("ToolMillModel", "frameTo", "[I", true)
  | 134 => ("ToolMillModel", "frameAt", "[I", true)
  | 135 => ("ToolMillModel", "frameLeft", "[I", true)
  | 136 => ("ToolMillModel", "frameMacro", "[I", true)
  | 137 => ("ToolMillModel", "frameCall", "[I", true)
  | 138 => ("ToolMillModel", "frameArgs", "[I", true)
  | 139 => ("ToolMillModel", "frameIfs", "[I", true)
  | 140 => ("ToolMillModel", "argTop", "I", false)
  | 141 => ("ToolMillModel", "argSigns", "[I", true)
  | 142 => ("ToolMillModel", "argFrom", "[I", true)
  | 143 => ("ToolMillModel", "argTo", "[I", true)
  | 144 => ("ToolMillModel", "macros", "I", false)
  | 145 => ("ToolMillModel", "macroName", "[I", true)
  | 146 => ("ToolMillModel", "macroFrom", "[I", true)
  | 147 => ("ToolMillModel", "macroTo", "[I", true)
  | 148 => ("ToolMillModel", "macroMany", "[I", true)
  | 149 => ("ToolMillModel", "macroParam", "[I", true)
  | 150 => ("ToolMillModel", "ifs", "I", false)
  | 151 => ("ToolMillModel", "ifComes", "[Z", true)
  | 152 => ("ToolMillModel", "ifDead", "[Z", true)
  | 153 => ("ToolMillModel", "ifElse", "[Z", true)
  | 154 => ("ToolMillModel", "ifLine", "[I", true)
  | 155 => ("ToolMillModel", "constants", "I", false)
  | 156 => ("ToolMillModel", "constantName", "[I", true)
  | 157 => ("ToolMillModel", "constantValue", "[I", true)
  | 158 => ("ToolMillModel", "marks", "I", false)
  | 159 => ("ToolMillModel", "globalNames", "[I", true)
  | 160 => ("ToolMillModel", "globals", "I", false)
  | 161 => ("ToolMillModel", "kindNames", "[I", true)
  | 162 => ("ToolMillModel", "kindValues", "[I", true)
  | 163 => ("ToolMillModel", "kinds", "I", false)
  | 164 => ("ToolMillModel", "reorder", "Z", false)
  | 165 => ("ToolMillModel", "section", "I", false)
  | 166 => ("ToolMillModel", "cameBytes", "I", false)
  | 167 => ("ToolMillModel", "cameValue", "[I", true)
  | 168 => ("ToolMillModel", "cameSection", "[I", true)
  | 169 => ("ToolMillModel", "labelHere", "[I", true)
  | 170 => ("ToolMillModel", "lastMoves", "[Z", true)
  | 171 => ("ToolMillModel", "lastAt", "[I", true)
  | 172 => ("ToolMillModel", "lastReads", "[I", true)
  | 173 => ("ToolMillModel", "lastSets", "[I", true)
  | 174 => ("ToolMillModel", "lastWord", "[I", true)
  | 175 => ("ToolMillModel", "digitSection", "[I", true)
  | 176 => ("ToolMillModel", "digitPlace", "[I", true)
  | 177 => ("ToolMillModel", "uses", "I", false)
  | 178 => ("ToolMillModel", "ofSection", "[I", true)
  | 179 => ("ToolMillModel", "ofPlace", "[I", true)
  | 180 => ("ToolMillModel", "ofSort", "[I", true)
  | 181 => ("ToolMillModel", "ofKind", "[I", true)
  | 182 => ("ToolMillModel", "ofName", "[I", true)
  | 183 => ("ToolMillModel", "ofTarget", "[I", true)
  | 184 => ("ToolMillModel", "ofNumber", "[I", true)
  | 185 => ("ToolMillModel", "ofLine", "[I", true)
  | 186 => ("ToolMillModel", "value", "I", false)
  | 187 => ("ToolMillModel", "valueKind", "I", false)
  | 188 => ("ToolMillModel", "valueName", "I", false)
  | 189 => ("ToolMillModel", "values", "I", false)
  | 190 => ("ToolMillModel", "vNumber", "[I", true)
  | 191 => ("ToolMillModel", "vKind", "[I", true)
  | 192 => ("ToolMillModel", "vName", "[I", true)
  | 193 => ("ToolMillModel", "vHalf", "[I", true)
  | 194 => ("ToolMillModel", "rd", "I", false)
  | 195 => ("ToolMillModel", "rs", "I", false)
  | 196 => ("ToolMillModel", "rt", "I", false)
  | 197 => ("ToolMillModel", "onRegister", "Z", false)
  | 198 => ("ToolMillModel", "newParam", "[I", true)
  | 199 => ("ToolMillModel", "frameArgTop", "[I", true)
  | 200 => ("ToolMillModel", "laid", "[I", true)
  | 201 => ("ToolMillModel", "startSection", "I", false)
  | 202 => ("ToolMillModel", "linked", "Z", false)
  | 203 => ("ToolMillModel", "base", "I", false)
  | 204 => ("ToolMillModel", "memorySize", "I", false)
  | 205 => ("ToolMillModel", "imageEnd", "I", false)
  | 206 => ("ToolMillModel", "textEnd", "I", false)
  | 207 => ("ToolMillModel", "memory", "[B", true)
  | 208 => ("ToolMillModel", "givers", "[I", true)
  | 209 => ("ToolMillModel", "registers", "[I", true)
  | 210 => ("ToolMillModel", "hi", "I", false)
  | 211 => ("ToolMillModel", "lo", "I", false)
  | 212 => ("ToolMillModel", "pc", "I", false)
  | 213 => ("ToolMillModel", "next", "I", false)
  | 214 => ("ToolMillModel", "outcome", "I", false)
  | 215 => ("ToolMillModel", "outcomeNumber", "I", false)
  | 216 => ("ToolMillModel", "stepsDone", "I", false)
  | 217 => ("ToolMillModel", "inputs", "I", false)
  | 218 => ("ToolMillModel", "input", "[I", true)
  | 219 => ("ToolMillModel", "inputsTaken", "I", false)
  | 220 => ("ToolMillModel", "outputs", "I", false)
  | 221 => ("ToolMillModel", "output", "[I", true)
  | 222 => ("ToolMillModel", "listed", "I", false)
  | 223 => ("ToolMillModel", "list", "[I", true)
  | 224 => ("ToolMillModel", "meant", "Z", false)
  | 225 => ("ToolMillModel", "meantHow", "I", false)
  | 226 => ("ToolMillModel", "meantValue", "I", false)
  | 227 => ("ToolMillModel", "meantSteps", "I", false)
  | 228 => ("ToolMillModel", "said0", "I", false)
  | 229 => ("ToolMillModel", "saidValue", "[I", true)
  | 230 => ("ToolMillModel", "meantInputs", "I", false)
  | 231 => ("ToolMillModel", "meantDeep", "I", false)
  | 232 => ("ToolMillModel", "declAt", "[I", true)
  | 233 => ("ToolMillModel", "store", "[I", true)
  | 234 => ("ToolMillModel", "leads", "[I", true)
  | 235 => ("ToolMillModel", "under", "I", false)
  | 236 => ("ToolMillModel", "backTo", "[I", true)
  | 237 => ("ToolMillModel", "backDepth", "[I", true)
  | 238 => ("ToolMillModel", "own", "[I", true)
  | 239 => ("ToolMillModel", "held", "[I", true)
  | 240 => ("ToolMillModel", "ended", "Z", false)
  | 241 => ("ToolMillModel", "atStep", "I", false)
  | _ => ("ToolMillModel", "mostSteps", "I", false)
def zY_0 : Nat → FieldType := fun k => match k with
  | 0 => .int
  | 1 => .array .int
  | 2 => .int
  | 3 => .int
  | 4 => .array .long
  | 5 => .array .long
  | 6 => .array .int
  | 7 => .int
  | 8 => .int
  | 9 => .int
  | 10 => .int
  | 11 => .array .boolean
  | 12 => .array .byte
  | 13 => .array .int
  | 14 => .array .int
  | 15 => .array .int
  | 16 => .array .boolean
  | 17 => .array .int
  | 18 => .array .int
  | 19 => .array .int
  | 20 => .array .int
  | 21 => .array .boolean
  | 22 => .array .byte
  | 23 => .array .int
  | 24 => .array .int
  | 25 => .array .int
  | 26 => .array .int
  | 27 => .array .int
  | 28 => .array .boolean
  | 29 => .array .int
  | 30 => .array .int
  | 31 => .array .int
  | 32 => .array .int
  | 33 => .array .int
  | 34 => .array .int
  | 35 => .array .int
  | 36 => .array .int
  | 37 => .array .int
  | 38 => .array .int
  | 39 => .array .int
  | 40 => .array .int
  | 41 => .array .int
  | 42 => .array .int
  | 43 => .array .int
  | 44 => .array .int
  | 45 => .array .int
  | 46 => .array .int
  | 47 => .array .int
  | 48 => .array .int
  | 49 => .array .int
  | 50 => .array .int
  | 51 => .array .int
  | 52 => .array .int
  | 53 => .array .int
  | 54 => .array .int
  | 55 => .array .int
  | 56 => .int
  | 57 => .array .int
  | 58 => .array .int
  | 59 => .array .int
  | 60 => .int
  | 61 => .boolean
  | 62 => .array .int
  | 63 => .int
  | 64 => .int
  | 65 => .int
  | 66 => .array .int
  | 67 => .array .int
  | 68 => .array .int
  | 69 => .int
  | 70 => .array .int
  | 71 => .int
  | 72 => .int
  | 73 => .int
  | 74 => .array .int
  | 75 => .array .int
  | 76 => .array .int
  | 77 => .array .int
  | 78 => .array .int
  | 79 => .array .int
  | 80 => .array .int
  | 81 => .array .int
  | 82 => .array .int
  | 83 => .array .int
  | 84 => .int
  | 85 => .int
  | 86 => .array .int
  | 87 => .array .int
  | 88 => .array .int
  | 89 => .array .int
  | 90 => .array .int
  | 91 => .array .int
  | 92 => .array .int
  | 93 => .array .int
  | 94 => .array .int
  | 95 => .array .int
  | 96 => .array .int
  | 97 => .array .int
  | 98 => .array .boolean
  | 99 => .int
  | 100 => .array .int
  | 101 => .array .int
  | 102 => .int
  | 103 => .array .int
  | 104 => .array .int
  | 105 => .int
  | 106 => .array .int
  | 107 => .array .int
  | 108 => .boolean
  | 109 => .int
  | 110 => .int
  | 111 => .array .int
  | 112 => .array .int
  | 113 => .int
  | 114 => .int
  | 115 => .array .int
  | 116 => .boolean
  | 117 => .int
  | 118 => .int
  | 119 => .int
  | 120 => .array .int
  | 121 => .array .int
  | 122 => .int
  | 123 => .int
  | 124 => .int
  | 125 => .int
  | 126 => .int
  | 127 => .int
  | 128 => .array .int
  | 129 => .int
  | 130 => .boolean
  | 131 => .int
  | 132 => .array .int
  | 133 => .array .int
  | 134 => .array .int
  | 135 => .array .int
  | 136 => .array .int
  | 137 => .array .int
  | 138 => .array .int
  | 139 => .array .int
  | 140 => .int
  | 141 => .array .int
  | 142 => .array .int
  | 143 => .array .int
  | 144 => .int
  | 145 => .array .int
  | 146 => .array .int
  | 147 => .array .int
  | 148 => .array .int
  | 149 => .array .int
  | 150 => .int
  | 151 => .array .boolean
  | 152 => .array .boolean
  | 153 => .array .boolean
  | 154 => .array .int
  | 155 => .int
  | 156 => .array .int
  | 157 => .array .int
  | 158 => .int
  | 159 => .array .int
  | 160 => .int
  | 161 => .array .int
  | 162 => .array .int
  | 163 => .int
  | 164 => .boolean
  | 165 => .int
  | 166 => .int
  | 167 => .array .int
  | 168 => .array .int
  | 169 => .array .int
  | 170 => .array .boolean
  | 171 => .array .int
  | 172 => .array .int
  | 173 => .array .int
  | 174 => .array .int
  | 175 => .array .int
  | 176 => .array .int
  | 177 => .int
  | 178 => .array .int
  | 179 => .array .int
  | 180 => .array .int
  | 181 => .array .int
  | 182 => .array .int
  | 183 => .array .int
  | 184 => .array .int
  | 185 => .array .int
  | 186 => .int
  | 187 => .int
  | 188 => .int
  | 189 => .int
  | 190 => .array .int
  | 191 => .array .int
  | 192 => .array .int
  | 193 => .array .int
  | 194 => .int
  | 195 => .int
  | 196 => .int
  | 197 => .boolean
  | 198 => .array .int
  | 199 => .array .int
  | 200 => .array .int
  | 201 => .int
  | 202 => .boolean
  | 203 => .int
  | 204 => .int
  | 205 => .int
  | 206 => .int
  | 207 => .array .byte
  | 208 => .array .int
  | 209 => .array .int
  | 210 => .int
  | 211 => .int
  | 212 => .int
  | 213 => .int
  | 214 => .int
  | 215 => .int
  | 216 => .int
  | 217 => .int
  | 218 => .array .int
  | 219 => .int
  | 220 => .int
  | 221 => .array .int
  | 222 => .int
  | 223 => .array .int
  | 224 => .boolean
  | 225 => .int
  | 226 => .int
  | 227 => .int
  | 228 => .int
  | 229 => .array .int
  | 230 => .int
  | 231 => .int
  | 232 => .array .int
  | 233 => .array .int
  | 234 => .array .int
  | 235 => .int
  | 236 => .array .int
  | 237 => .array .int
  | 238 => .array .int
  | 239 => .array .int
  | 240 => .boolean
  | 241 => .int
  | _ => .int
theorem zYk_0 : ∀ k, k < 243 → parseFieldDescriptor (zT_0 k).2.2.1 = some (zY_0 k) := by decide +kernel
theorem zNm_0 : ∀ a, a < 243 → ∀ b, b < 243 → a ≠ b → (zT_0 a).2.1 ≠ (zT_0 b).2.1 := by decide +kernel
def zC_1 : String := "ToolMill"
def zT_1 : u_T := fun k => match k with
  | 0 => ("ToolMill", "text", "[B", true)
  | 1 => ("ToolMill", "signs", "I", false)
  | 2 => ("ToolMill", "units", "[LToolMill$Unit;", true)
  | 3 => ("ToolMill", "unitCount", "I", false)
  | 4 => ("ToolMill", "inputs", "[I", true)
  | 5 => ("ToolMill", "inputCount", "I", false)
  | 6 => ("ToolMill", "faultKind", "I", false)
  | 7 => ("ToolMill", "faultPlace", "I", false)
  | 8 => ("ToolMill", "faultUnit", "I", false)
  | 9 => ("ToolMill", "linked", "Z", false)
  | 10 => ("ToolMill", "hasMeaning", "Z", false)
  | 11 => ("ToolMill", "codes", "LToolMill$Codes;", true)
  | 12 => ("ToolMill", "reader", "LToolMill$Reader;", true)
  | 13 => ("ToolMill", "assembler", "LToolMill$Assembler;", true)
  | 14 => ("ToolMill", "linker", "LToolMill$Linker;", true)
  | 15 => ("ToolMill", "machine", "LToolMill$Machine;", true)
  | _ => ("ToolMill", "meaning", "LToolMill$Meaning;", true)
def zY_1 : Nat → FieldType := fun k => match k with
  | 0 => .array .byte
  | 1 => .int
  | 2 => .array (.object "ToolMill$Unit")
  | 3 => .int
  | 4 => .array .int
  | 5 => .int
  | 6 => .int
  | 7 => .int
  | 8 => .int
  | 9 => .boolean
  | 10 => .boolean
  | 11 => .object "ToolMill$Codes"
  | 12 => .object "ToolMill$Reader"
  | 13 => .object "ToolMill$Assembler"
  | 14 => .object "ToolMill$Linker"
  | 15 => .object "ToolMill$Machine"
  | _ => .object "ToolMill$Meaning"
theorem zYk_1 : ∀ k, k < 17 → parseFieldDescriptor (zT_1 k).2.2.1 = some (zY_1 k) := by decide +kernel
theorem zNm_1 : ∀ a, a < 17 → ∀ b, b < 17 → a ≠ b → (zT_1 a).2.1 ≠ (zT_1 b).2.1 := by decide +kernel
def zC_2 : String := "ToolMill$Assembler"
def zT_2 : u_T := fun k => match k with
  | 0 => ("ToolMill$Assembler", "faultKind", "I", false)
  | 1 => ("ToolMill$Assembler", "faultLine", "I", false)
  | 2 => ("ToolMill$Assembler", "names", "LToolMill$Names;", true)
  | 3 => ("ToolMill$Assembler", "lines", "LToolMill$Lines;", true)
  | 4 => ("ToolMill$Assembler", "scan", "LToolMill$Scanner;", true)
  | 5 => ("ToolMill$Assembler", "unit", "LToolMill$Unit;", false)
  | 6 => ("ToolMill$Assembler", "section", "I", false)
  | 7 => ("ToolMill$Assembler", "reorder", "Z", false)
  | 8 => ("ToolMill$Assembler", "toldCount", "I", false)
  | 9 => ("ToolMill$Assembler", "constantCount", "I", false)
  | 10 => ("ToolMill$Assembler", "waiting", "[I", true)
  | 11 => ("ToolMill$Assembler", "digitSections", "[I", true)
  | 12 => ("ToolMill$Assembler", "digitPlaces", "[I", true)
  | 13 => ("ToolMill$Assembler", "chain", "[I", true)
  | 14 => ("ToolMill$Assembler", "lastPlaces", "[I", true)
  | 15 => ("ToolMill$Assembler", "lastOperations", "[I", true)
  | 16 => ("ToolMill$Assembler", "lastUses", "[I", true)
  | 17 => ("ToolMill$Assembler", "labelled", "[I", true)
  | _ => ("ToolMill$Assembler", "sort", "I", false)
def zY_2 : Nat → FieldType := fun k => match k with
  | 0 => .int
  | 1 => .int
  | 2 => .object "ToolMill$Names"
  | 3 => .object "ToolMill$Lines"
  | 4 => .object "ToolMill$Scanner"
  | 5 => .object "ToolMill$Unit"
  | 6 => .int
  | 7 => .boolean
  | 8 => .int
  | 9 => .int
  | 10 => .array .int
  | 11 => .array .int
  | 12 => .array .int
  | 13 => .array .int
  | 14 => .array .int
  | 15 => .array .int
  | 16 => .array .int
  | 17 => .array .int
  | _ => .int
theorem zYk_2 : ∀ k, k < 19 → parseFieldDescriptor (zT_2 k).2.2.1 = some (zY_2 k) := by decide +kernel
theorem zNm_2 : ∀ a, a < 19 → ∀ b, b < 19 → a ≠ b → (zT_2 a).2.1 ≠ (zT_2 b).2.1 := by decide +kernel
def zC_3 : String := "ToolMill$Codes"
def zT_3 : u_T := fun k => match k with
  | 0 => ("ToolMill$Codes", "names", "LToolMill$Names;", true)
  | 1 => ("ToolMill$Codes", "byOp", "[I", true)
  | 2 => ("ToolMill$Codes", "byFunction", "[I", true)
  | 3 => ("ToolMill$Codes", "bySecond", "[I", true)
  | _ => ("ToolMill$Codes", "text", "Ljava/lang/StringBuilder;", true)
def zY_3 : Nat → FieldType := fun k => match k with
  | 0 => .object "ToolMill$Names"
  | 1 => .array .int
  | 2 => .array .int
  | 3 => .array .int
  | _ => .object "java/lang/StringBuilder"
theorem zYk_3 : ∀ k, k < 5 → parseFieldDescriptor (zT_3 k).2.2.1 = some (zY_3 k) := by decide +kernel
theorem zNm_3 : ∀ a, a < 5 → ∀ b, b < 5 → a ≠ b → (zT_3 a).2.1 ≠ (zT_3 b).2.1 := by decide +kernel
def zC_4 : String := "ToolMill$Draft"
def zT_4 : u_T := fun k => match k with
  | 0 => ("ToolMill$Draft", "typed", "[B", true)
  | 1 => ("ToolMill$Draft", "typedSize", "I", false)
  | 2 => ("ToolMill$Draft", "items", "[I", true)
  | 3 => ("ToolMill$Draft", "itemCount", "I", false)
  | 4 => ("ToolMill$Draft", "declared", "[I", true)
  | 5 => ("ToolMill$Draft", "declaredNames", "[J", true)
  | 6 => ("ToolMill$Draft", "declaredCount", "I", false)
  | 7 => ("ToolMill$Draft", "outerKinds", "[I", true)
  | 8 => ("ToolMill$Draft", "outerNames", "[J", true)
  | 9 => ("ToolMill$Draft", "outerCount", "I", false)
  | 10 => ("ToolMill$Draft", "reader", "LToolMill$Reader;", false)
  | 11 => ("ToolMill$Draft", "depth", "I", false)
  | 12 => ("ToolMill$Draft", "name", "J", false)
  | 13 => ("ToolMill$Draft", "extra", "I", false)
  | 14 => ("ToolMill$Draft", "endLabel", "I", false)
  | _ => ("ToolMill$Draft", "saved", "I", false)
def zY_4 : Nat → FieldType := fun k => match k with
  | 0 => .array .byte
  | 1 => .int
  | 2 => .array .int
  | 3 => .int
  | 4 => .array .int
  | 5 => .array .long
  | 6 => .int
  | 7 => .array .int
  | 8 => .array .long
  | 9 => .int
  | 10 => .object "ToolMill$Reader"
  | 11 => .int
  | 12 => .long
  | 13 => .int
  | 14 => .int
  | _ => .int
theorem zYk_4 : ∀ k, k < 16 → parseFieldDescriptor (zT_4 k).2.2.1 = some (zY_4 k) := by decide +kernel
theorem zNm_4 : ∀ a, a < 16 → ∀ b, b < 16 → a ≠ b → (zT_4 a).2.1 ≠ (zT_4 b).2.1 := by decide +kernel
def zC_5 : String := "ToolMill$Lines"
def zT_5 : u_T := fun k => match k with
  | 0 => ("ToolMill$Lines", "wrong", "I", false)
  | 1 => ("ToolMill$Lines", "line", "I", false)
  | 2 => ("ToolMill$Lines", "given", "[B", true)
  | 3 => ("ToolMill$Lines", "length", "I", false)
  | 4 => ("ToolMill$Lines", "names", "LToolMill$Names;", true)
  | 5 => ("ToolMill$Lines", "text", "[B", false)
  | 6 => ("ToolMill$Lines", "size", "I", false)
  | 7 => ("ToolMill$Lines", "nextLine", "I", false)
  | 8 => ("ToolMill$Lines", "came", "I", false)
  | 9 => ("ToolMill$Lines", "from", "I", false)
  | 10 => ("ToolMill$Lines", "to", "I", false)
  | 11 => ("ToolMill$Lines", "frames", "[I", true)
  | 12 => ("ToolMill$Lines", "depth", "I", false)
  | 13 => ("ToolMill$Lines", "macros", "[I", true)
  | 14 => ("ToolMill$Lines", "macroWords", "[J", true)
  | 15 => ("ToolMill$Lines", "macroCount", "I", false)
  | 16 => ("ToolMill$Lines", "calls", "I", false)
  | 17 => ("ToolMill$Lines", "arguments", "[B", true)
  | 18 => ("ToolMill$Lines", "bounds", "[I", true)
  | 19 => ("ToolMill$Lines", "ifs", "[I", true)
  | _ => ("ToolMill$Lines", "ifCount", "I", false)
def zY_5 : Nat → FieldType := fun k => match k with
  | 0 => .int
  | 1 => .int
  | 2 => .array .byte
  | 3 => .int
  | 4 => .object "ToolMill$Names"
  | 5 => .array .byte
  | 6 => .int
  | 7 => .int
  | 8 => .int
  | 9 => .int
  | 10 => .int
  | 11 => .array .int
  | 12 => .int
  | 13 => .array .int
  | 14 => .array .long
  | 15 => .int
  | 16 => .int
  | 17 => .array .byte
  | 18 => .array .int
  | 19 => .array .int
  | _ => .int
theorem zYk_5 : ∀ k, k < 21 → parseFieldDescriptor (zT_5 k).2.2.1 = some (zY_5 k) := by decide +kernel
theorem zNm_5 : ∀ a, a < 21 → ∀ b, b < 21 → a ≠ b → (zT_5 a).2.1 ≠ (zT_5 b).2.1 := by decide +kernel
def zC_6 : String := "ToolMill$Linker"
def zT_6 : u_T := fun k => match k with
  | 0 => ("ToolMill$Linker", "faultKind", "I", false)
  | 1 => ("ToolMill$Linker", "faultLine", "I", false)
  | 2 => ("ToolMill$Linker", "faultUnit", "I", false)
  | 3 => ("ToolMill$Linker", "imageEnd", "I", false)
  | 4 => ("ToolMill$Linker", "names", "LToolMill$Names;", true)
  | 5 => ("ToolMill$Linker", "machine", "LToolMill$Machine;", true)
  | 6 => ("ToolMill$Linker", "units", "[LToolMill$Unit;", false)
  | 7 => ("ToolMill$Linker", "count", "I", false)
  | 8 => ("ToolMill$Linker", "textEnd", "I", false)
  | 9 => ("ToolMill$Linker", "reached", "[I", true)
  | 10 => ("ToolMill$Linker", "reachedCount", "I", false)
  | 11 => ("ToolMill$Linker", "aimUnit", "I", false)
  | 12 => ("ToolMill$Linker", "aimSection", "I", false)
  | _ => ("ToolMill$Linker", "aimPlace", "I", false)
def zY_6 : Nat → FieldType := fun k => match k with
  | 0 => .int
  | 1 => .int
  | 2 => .int
  | 3 => .int
  | 4 => .object "ToolMill$Names"
  | 5 => .object "ToolMill$Machine"
  | 6 => .array (.object "ToolMill$Unit")
  | 7 => .int
  | 8 => .int
  | 9 => .array .int
  | 10 => .int
  | 11 => .int
  | 12 => .int
  | _ => .int
theorem zYk_6 : ∀ k, k < 14 → parseFieldDescriptor (zT_6 k).2.2.1 = some (zY_6 k) := by decide +kernel
theorem zNm_6 : ∀ a, a < 14 → ∀ b, b < 14 → a ≠ b → (zT_6 a).2.1 ≠ (zT_6 b).2.1 := by decide +kernel
def zC_7 : String := "ToolMill$Machine"
def zT_7 : u_T := fun k => match k with
  | 0 => ("ToolMill$Machine", "outcome", "I", false)
  | 1 => ("ToolMill$Machine", "number", "I", false)
  | 2 => ("ToolMill$Machine", "pc", "I", false)
  | 3 => ("ToolMill$Machine", "next", "I", false)
  | 4 => ("ToolMill$Machine", "hi", "I", false)
  | 5 => ("ToolMill$Machine", "lo", "I", false)
  | 6 => ("ToolMill$Machine", "steps", "I", false)
  | 7 => ("ToolMill$Machine", "imageEnd", "I", false)
  | 8 => ("ToolMill$Machine", "textEnd", "I", false)
  | 9 => ("ToolMill$Machine", "registers", "[I", true)
  | 10 => ("ToolMill$Machine", "outputs", "[I", true)
  | 11 => ("ToolMill$Machine", "outputCount", "I", false)
  | 12 => ("ToolMill$Machine", "taken", "I", false)
  | 13 => ("ToolMill$Machine", "codes", "LToolMill$Codes;", true)
  | 14 => ("ToolMill$Machine", "memory", "[I", true)
  | 15 => ("ToolMill$Machine", "base", "I", false)
  | 16 => ("ToolMill$Machine", "size", "I", false)
  | 17 => ("ToolMill$Machine", "inputs", "[I", false)
  | 18 => ("ToolMill$Machine", "inputCount", "I", false)
  | _ => ("ToolMill$Machine", "after", "I", false)
def zY_7 : Nat → FieldType := fun k => match k with
  | 0 => .int
  | 1 => .int
  | 2 => .int
  | 3 => .int
  | 4 => .int
  | 5 => .int
  | 6 => .int
  | 7 => .int
  | 8 => .int
  | 9 => .array .int
  | 10 => .array .int
  | 11 => .int
  | 12 => .int
  | 13 => .object "ToolMill$Codes"
  | 14 => .array .int
  | 15 => .int
  | 16 => .int
  | 17 => .array .int
  | 18 => .int
  | _ => .int
theorem zYk_7 : ∀ k, k < 20 → parseFieldDescriptor (zT_7 k).2.2.1 = some (zY_7 k) := by decide +kernel
theorem zNm_7 : ∀ a, a < 20 → ∀ b, b < 20 → a ≠ b → (zT_7 a).2.1 ≠ (zT_7 b).2.1 := by decide +kernel
def zC_8 : String := "ToolMill$Meaning"
def zT_8 : u_T := fun k => match k with
  | 0 => ("ToolMill$Meaning", "answer", "I", false)
  | 1 => ("ToolMill$Meaning", "result", "I", false)
  | 2 => ("ToolMill$Meaning", "steps", "I", false)
  | 3 => ("ToolMill$Meaning", "saidCount", "I", false)
  | 4 => ("ToolMill$Meaning", "taken", "I", false)
  | 5 => ("ToolMill$Meaning", "deepest", "I", false)
  | 6 => ("ToolMill$Meaning", "saidValues", "[I", true)
  | 7 => ("ToolMill$Meaning", "names", "LToolMill$Names;", true)
  | 8 => ("ToolMill$Meaning", "units", "[LToolMill$Unit;", false)
  | 9 => ("ToolMill$Meaning", "meanings", "[I", true)
  | 10 => ("ToolMill$Meaning", "addresses", "[I", true)
  | 11 => ("ToolMill$Meaning", "globals", "[I", true)
  | 12 => ("ToolMill$Meaning", "globalCount", "I", false)
  | 13 => ("ToolMill$Meaning", "main", "I", false)
  | 14 => ("ToolMill$Meaning", "frames", "[I", true)
  | 15 => ("ToolMill$Meaning", "calls", "I", false)
  | 16 => ("ToolMill$Meaning", "unit", "I", false)
  | 17 => ("ToolMill$Meaning", "at", "I", false)
  | 18 => ("ToolMill$Meaning", "mostSteps", "I", false)
  | 19 => ("ToolMill$Meaning", "inputs", "[I", false)
  | _ => ("ToolMill$Meaning", "inputCount", "I", false)
def zY_8 : Nat → FieldType := fun k => match k with
  | 0 => .int
  | 1 => .int
  | 2 => .int
  | 3 => .int
  | 4 => .int
  | 5 => .int
  | 6 => .array .int
  | 7 => .object "ToolMill$Names"
  | 8 => .array (.object "ToolMill$Unit")
  | 9 => .array .int
  | 10 => .array .int
  | 11 => .array .int
  | 12 => .int
  | 13 => .int
  | 14 => .array .int
  | 15 => .int
  | 16 => .int
  | 17 => .int
  | 18 => .int
  | 19 => .array .int
  | _ => .int
theorem zYk_8 : ∀ k, k < 21 → parseFieldDescriptor (zT_8 k).2.2.1 = some (zY_8 k) := by decide +kernel
theorem zNm_8 : ∀ a, a < 21 → ∀ b, b < 21 → a ≠ b → (zT_8 a).2.1 ≠ (zT_8 b).2.1 := by decide +kernel
def zC_9 : String := "ToolMill$Names"
def zT_9 : u_T := fun k => match k with
  | 0 => ("ToolMill$Names", "first", "[J", true)
  | 1 => ("ToolMill$Names", "second", "[J", true)
  | 2 => ("ToolMill$Names", "owner", "[I", true)
  | 3 => ("ToolMill$Names", "mark", "[I", true)
  | 4 => ("ToolMill$Names", "value", "[I", true)
  | 5 => ("ToolMill$Names", "slots", "[I", true)
  | 6 => ("ToolMill$Names", "slotOf", "[I", true)
  | 7 => ("ToolMill$Names", "count", "I", false)
  | _ => ("ToolMill$Names", "kept", "I", true)
def zY_9 : Nat → FieldType := fun k => match k with
  | 0 => .array .long
  | 1 => .array .long
  | 2 => .array .int
  | 3 => .array .int
  | 4 => .array .int
  | 5 => .array .int
  | 6 => .array .int
  | 7 => .int
  | _ => .int
theorem zYk_9 : ∀ k, k < 9 → parseFieldDescriptor (zT_9 k).2.2.1 = some (zY_9 k) := by decide +kernel
theorem zNm_9 : ∀ a, a < 9 → ∀ b, b < 9 → a ≠ b → (zT_9 a).2.1 ≠ (zT_9 b).2.1 := by decide +kernel
def zC_10 : String := "ToolMill$Reader"
def zT_10 : u_T := fun k => match k with
  | 0 => ("ToolMill$Reader", "faultKind", "I", false)
  | 1 => ("ToolMill$Reader", "faultPlace", "I", false)
  | 2 => ("ToolMill$Reader", "names", "LToolMill$Names;", true)
  | 3 => ("ToolMill$Reader", "draft", "LToolMill$Draft;", false)
  | 4 => ("ToolMill$Reader", "tokens", "[I", true)
  | 5 => ("ToolMill$Reader", "at", "I", false)
  | 6 => ("ToolMill$Reader", "open", "I", false)
  | 7 => ("ToolMill$Reader", "wrongAt", "I", false)
  | 8 => ("ToolMill$Reader", "twiceAt", "I", false)
  | 9 => ("ToolMill$Reader", "muchAt", "I", false)
  | 10 => ("ToolMill$Reader", "uses", "[I", true)
  | 11 => ("ToolMill$Reader", "useCount", "I", false)
  | 12 => ("ToolMill$Reader", "locals", "[I", true)
  | 13 => ("ToolMill$Reader", "localCount", "I", false)
  | 14 => ("ToolMill$Reader", "procedure", "I", false)
  | 15 => ("ToolMill$Reader", "labels", "[I", true)
  | _ => ("ToolMill$Reader", "labelCount", "I", false)
def zY_10 : Nat → FieldType := fun k => match k with
  | 0 => .int
  | 1 => .int
  | 2 => .object "ToolMill$Names"
  | 3 => .object "ToolMill$Draft"
  | 4 => .array .int
  | 5 => .int
  | 6 => .int
  | 7 => .int
  | 8 => .int
  | 9 => .int
  | 10 => .array .int
  | 11 => .int
  | 12 => .array .int
  | 13 => .int
  | 14 => .int
  | 15 => .array .int
  | _ => .int
theorem zYk_10 : ∀ k, k < 17 → parseFieldDescriptor (zT_10 k).2.2.1 = some (zY_10 k) := by decide +kernel
theorem zNm_10 : ∀ a, a < 17 → ∀ b, b < 17 → a ≠ b → (zT_10 a).2.1 ≠ (zT_10 b).2.1 := by decide +kernel
def zC_11 : String := "ToolMill$Scanner"
def zT_11 : u_T := fun k => match k with
  | 0 => ("ToolMill$Scanner", "worst", "I", false)
  | 1 => ("ToolMill$Scanner", "sum", "I", false)
  | 2 => ("ToolMill$Scanner", "label", "I", false)
  | 3 => ("ToolMill$Scanner", "names", "LToolMill$Names;", true)
  | 4 => ("ToolMill$Scanner", "line", "[B", false)
  | 5 => ("ToolMill$Scanner", "size", "I", false)
  | 6 => ("ToolMill$Scanner", "kinds", "[I", true)
  | 7 => ("ToolMill$Scanner", "numbers", "[I", true)
  | 8 => ("ToolMill$Scanner", "ends", "[I", true)
  | 9 => ("ToolMill$Scanner", "firsts", "[J", true)
  | 10 => ("ToolMill$Scanner", "seconds", "[J", true)
  | _ => ("ToolMill$Scanner", "at", "I", false)
def zY_11 : Nat → FieldType := fun k => match k with
  | 0 => .int
  | 1 => .int
  | 2 => .int
  | 3 => .object "ToolMill$Names"
  | 4 => .array .byte
  | 5 => .int
  | 6 => .array .int
  | 7 => .array .int
  | 8 => .array .int
  | 9 => .array .long
  | 10 => .array .long
  | _ => .int
theorem zYk_11 : ∀ k, k < 12 → parseFieldDescriptor (zT_11 k).2.2.1 = some (zY_11 k) := by decide +kernel
theorem zNm_11 : ∀ a, a < 12 → ∀ b, b < 12 → a ≠ b → (zT_11 a).2.1 ≠ (zT_11 b).2.1 := by decide +kernel
def zC_12 : String := "ToolMill$Unit"
def zT_12 : u_T := fun k => match k with
  | 0 => ("ToolMill$Unit", "inLanguage", "Z", false)
  | 1 => ("ToolMill$Unit", "draft", "LToolMill$Draft;", true)
  | 2 => ("ToolMill$Unit", "bytes", "[B", true)
  | 3 => ("ToolMill$Unit", "byteCount", "I", false)
  | 4 => ("ToolMill$Unit", "sectionNames", "[J", true)
  | 5 => ("ToolMill$Unit", "sections", "[I", true)
  | 6 => ("ToolMill$Unit", "sectionCount", "I", false)
  | 7 => ("ToolMill$Unit", "labelNames", "[J", true)
  | 8 => ("ToolMill$Unit", "labels", "[I", true)
  | 9 => ("ToolMill$Unit", "labelCount", "I", false)
  | 10 => ("ToolMill$Unit", "wantNames", "[J", true)
  | 11 => ("ToolMill$Unit", "wants", "[I", true)
  | 12 => ("ToolMill$Unit", "wantCount", "I", false)
  | 13 => ("ToolMill$Unit", "useNames", "[J", true)
  | 14 => ("ToolMill$Unit", "uses", "[I", true)
  | _ => ("ToolMill$Unit", "useCount", "I", false)
def zY_12 : Nat → FieldType := fun k => match k with
  | 0 => .boolean
  | 1 => .object "ToolMill$Draft"
  | 2 => .array .byte
  | 3 => .int
  | 4 => .array .long
  | 5 => .array .int
  | 6 => .int
  | 7 => .array .long
  | 8 => .array .int
  | 9 => .int
  | 10 => .array .long
  | 11 => .array .int
  | 12 => .int
  | 13 => .array .long
  | 14 => .array .int
  | _ => .int
theorem zYk_12 : ∀ k, k < 16 → parseFieldDescriptor (zT_12 k).2.2.1 = some (zY_12 k) := by decide +kernel
theorem zNm_12 : ∀ a, a < 16 → ∀ b, b < 16 → a ≠ b → (zT_12 a).2.1 ≠ (zT_12 b).2.1 := by decide +kernel
def zC_13 : String := "java/lang/StringBuilder"
def zT_13 : u_T := fun k => match k with
  | 0 => ("java/lang/AbstractStringBuilder", "value", "[B", false)
  | 1 => ("java/lang/AbstractStringBuilder", "coder", "B", false)
  | 2 => ("java/lang/AbstractStringBuilder", "maybeLatin1", "Z", false)
  | _ => ("java/lang/AbstractStringBuilder", "count", "I", false)
def zY_13 : Nat → FieldType := fun k => match k with
  | 0 => .array .byte
  | 1 => .byte
  | 2 => .boolean
  | _ => .int
theorem zYk_13 : ∀ k, k < 4 → parseFieldDescriptor (zT_13 k).2.2.1 = some (zY_13 k) := by decide +kernel
theorem zNm_13 : ∀ a, a < 4 → ∀ b, b < 4 → a ≠ b → (zT_13 a).2.1 ≠ (zT_13 b).2.1 := by decide +kernel
def zC_14 : String := "java/lang/IllegalArgumentException"
def zT_14 : u_T := fun _ => ("", "", "", false)
def zC_15 : String := "java/lang/IllegalStateException"
def zT_15 : u_T := fun _ => ("", "", "", false)
def zC_16 : String := "java/util/NoSuchElementException"
def zT_16 : u_T := fun _ => ("", "", "", false)
def zC_17 : String := "java/lang/IndexOutOfBoundsException"
def zT_17 : u_T := fun _ => ("", "", "", false)
def zC_18 : String := "java/lang/UnsupportedOperationException"
def zT_18 : u_T := fun _ => ("", "", "", false)
def zcl : List vw_C := [(zC_0, zT_0, 243), (zC_1, zT_1, 17), (zC_2, zT_2, 19), (zC_3, zT_3, 5), (zC_4, zT_4, 16), (zC_5, zT_5, 21), (zC_6, zT_6, 14), (zC_7, zT_7, 20), (zC_8, zT_8, 21), (zC_9, zT_9, 9), (zC_10, zT_10, 17), (zC_11, zT_11, 12), (zC_12, zT_12, 16), (zC_13, zT_13, 4), (zC_14, zT_14, 0), (zC_15, zT_15, 0), (zC_16, zT_16, 0), (zC_17, zT_17, 0), (zC_18, zT_18, 0)]
def zFKs : List (List Nat) := [[0, 2, 0, 0, 2, 2, 2, 0, 0, 0, 0, 2, 2, 2, 2, 2, 2, 2, 2, 2, 2, 2, 2, 2, 2, 2, 2, 2, 2, 2, 2, 2, 2, 2, 2, 2, 2, 2, 2, 2, 2, 2, 2, 2, 2, 2, 2, 2, 2, 2, 2, 2, 2, 2, 2, 2, 0, 2, 2, 2, 0, 0, 2, 0, 0, 0, 2, 2, 2, 0, 2, 0, 0, 0, 2, 2, 2, 2, 2, 2, 2, 2, 2, 2, 0, 0, 2, 2, 2, 2, 2, 2, 2, 2, 2, 2, 2, 2, 2, 0, 2, 2, 0, 2, 2, 0, 2, 2, 0, 0, 0, 2, 2, 0, 0, 2, 0, 0, 0, 0, 2, 2, 0, 0, 0, 0, 0, 0, 2, 0, 0, 0, 2, 2, 2, 2, 2, 2, 2, 2, 0, 2, 2, 2, 0, 2, 2, 2, 2, 2, 0, 2, 2, 2, 2, 0, 2, 2, 0, 2, 0, 2, 2, 0, 0, 0, 0, 2, 2, 2, 2, 2, 2, 2, 2, 2, 2, 0, 2, 2, 2, 2, 2, 2, 2, 2, 0, 0, 0, 0, 2, 2, 2, 2, 0, 0, 0, 0, 2, 2, 2, 0, 0, 0, 0, 0, 0, 2, 2, 2, 0, 0, 0, 0, 0, 0, 0, 0, 2, 0, 0, 2, 0, 2, 0, 0, 0, 0, 0, 2, 0, 0, 2, 2, 2, 0, 2, 2, 2, 2, 0, 0, 0], [2, 0, 2, 0, 2, 0, 0, 0, 0, 0, 0, 2, 2, 2, 2, 2, 2], [0, 0, 2, 2, 2, 2, 0, 0, 0, 0, 2, 2, 2, 2, 2, 2, 2, 2, 0], [2, 2, 2, 2, 2], [2, 0, 2, 0, 2, 2, 0, 2, 2, 0, 2, 0, 1, 0, 0, 0], [0, 0, 2, 0, 2, 2, 0, 0, 0, 0, 0, 2, 0, 2, 2, 0, 0, 2, 2, 2, 0], [0, 0, 0, 0, 2, 2, 2, 0, 0, 2, 0, 0, 0, 0], [0, 0, 0, 0, 0, 0, 0, 0, 0, 2, 2, 0, 0, 2, 2, 0, 0, 2, 0, 0], [0, 0, 0, 0, 0, 0, 2, 2, 2, 2, 2, 2, 0, 0, 2, 0, 0, 0, 0, 2, 0], [2, 2, 2, 2, 2, 2, 2, 0, 0], [0, 0, 2, 2, 2, 0, 0, 0, 0, 0, 2, 0, 2, 0, 0, 2, 0], [0, 0, 0, 2, 2, 0, 2, 2, 2, 2, 2, 0], [0, 2, 2, 0, 2, 2, 0, 2, 2, 0, 2, 2, 0, 2, 2, 0], [2, 0, 0, 0], [], [], [], [], []]
def zFK (ci k : Nat) : Nat := (zFKs.getD ci []).getD k 0
theorem zDf_0 : ∀ k, k < 243 → (zFK 0 k = 0 ∧ defaultValue (zY_0 k) = .int 0) ∨ (zFK 0 k = 1 ∧ defaultValue (zY_0 k) = .long 0) ∨ (zFK 0 k = 2 ∧ defaultValue (zY_0 k) = .null) := by decide +kernel
theorem zDf_1 : ∀ k, k < 17 → (zFK 1 k = 0 ∧ defaultValue (zY_1 k) = .int 0) ∨ (zFK 1 k = 1 ∧ defaultValue (zY_1 k) = .long 0) ∨ (zFK 1 k = 2 ∧ defaultValue (zY_1 k) = .null) := by decide +kernel
theorem zDf_2 : ∀ k, k < 19 → (zFK 2 k = 0 ∧ defaultValue (zY_2 k) = .int 0) ∨ (zFK 2 k = 1 ∧ defaultValue (zY_2 k) = .long 0) ∨ (zFK 2 k = 2 ∧ defaultValue (zY_2 k) = .null) := by decide +kernel
theorem zDf_3 : ∀ k, k < 5 → (zFK 3 k = 0 ∧ defaultValue (zY_3 k) = .int 0) ∨ (zFK 3 k = 1 ∧ defaultValue (zY_3 k) = .long 0) ∨ (zFK 3 k = 2 ∧ defaultValue (zY_3 k) = .null) := by decide +kernel
theorem zDf_4 : ∀ k, k < 16 → (zFK 4 k = 0 ∧ defaultValue (zY_4 k) = .int 0) ∨ (zFK 4 k = 1 ∧ defaultValue (zY_4 k) = .long 0) ∨ (zFK 4 k = 2 ∧ defaultValue (zY_4 k) = .null) := by decide +kernel
theorem zDf_5 : ∀ k, k < 21 → (zFK 5 k = 0 ∧ defaultValue (zY_5 k) = .int 0) ∨ (zFK 5 k = 1 ∧ defaultValue (zY_5 k) = .long 0) ∨ (zFK 5 k = 2 ∧ defaultValue (zY_5 k) = .null) := by decide +kernel
theorem zDf_6 : ∀ k, k < 14 → (zFK 6 k = 0 ∧ defaultValue (zY_6 k) = .int 0) ∨ (zFK 6 k = 1 ∧ defaultValue (zY_6 k) = .long 0) ∨ (zFK 6 k = 2 ∧ defaultValue (zY_6 k) = .null) := by decide +kernel
theorem zDf_7 : ∀ k, k < 20 → (zFK 7 k = 0 ∧ defaultValue (zY_7 k) = .int 0) ∨ (zFK 7 k = 1 ∧ defaultValue (zY_7 k) = .long 0) ∨ (zFK 7 k = 2 ∧ defaultValue (zY_7 k) = .null) := by decide +kernel
theorem zDf_8 : ∀ k, k < 21 → (zFK 8 k = 0 ∧ defaultValue (zY_8 k) = .int 0) ∨ (zFK 8 k = 1 ∧ defaultValue (zY_8 k) = .long 0) ∨ (zFK 8 k = 2 ∧ defaultValue (zY_8 k) = .null) := by decide +kernel
theorem zDf_9 : ∀ k, k < 9 → (zFK 9 k = 0 ∧ defaultValue (zY_9 k) = .int 0) ∨ (zFK 9 k = 1 ∧ defaultValue (zY_9 k) = .long 0) ∨ (zFK 9 k = 2 ∧ defaultValue (zY_9 k) = .null) := by decide +kernel
theorem zDf_10 : ∀ k, k < 17 → (zFK 10 k = 0 ∧ defaultValue (zY_10 k) = .int 0) ∨ (zFK 10 k = 1 ∧ defaultValue (zY_10 k) = .long 0) ∨ (zFK 10 k = 2 ∧ defaultValue (zY_10 k) = .null) := by decide +kernel
theorem zDf_11 : ∀ k, k < 12 → (zFK 11 k = 0 ∧ defaultValue (zY_11 k) = .int 0) ∨ (zFK 11 k = 1 ∧ defaultValue (zY_11 k) = .long 0) ∨ (zFK 11 k = 2 ∧ defaultValue (zY_11 k) = .null) := by decide +kernel
theorem zDf_12 : ∀ k, k < 16 → (zFK 12 k = 0 ∧ defaultValue (zY_12 k) = .int 0) ∨ (zFK 12 k = 1 ∧ defaultValue (zY_12 k) = .long 0) ∨ (zFK 12 k = 2 ∧ defaultValue (zY_12 k) = .null) := by decide +kernel
theorem zDf_13 : ∀ k, k < 4 → (zFK 13 k = 0 ∧ defaultValue (zY_13 k) = .int 0) ∨ (zFK 13 k = 1 ∧ defaultValue (zY_13 k) = .long 0) ∨ (zFK 13 k = 2 ∧ defaultValue (zY_13 k) = .null) := by decide +kernel
def zTys (cy : Nat → ClassId) : List (ClassId × FieldType) := [(cy 0, .int), (cy 1, .byte), (cy 2, .boolean), (cy 3, .long), (cy 4, .object "ToolMill$Unit")]
/-! methods -/
def zy_0 : MethodName := ⟨"ToolMill", "<init>", "()V"⟩
def zy_1 : MethodName := ⟨"ToolMill", "put", "(I)I"⟩
def zy_2 : MethodName := ⟨"ToolMill", "end", "(I)V"⟩
def zy_3 : MethodName := ⟨"ToolMill", "source", "()I"⟩
def zy_4 : MethodName := ⟨"ToolMill", "assemble", "()I"⟩
def zy_5 : MethodName := ⟨"ToolMill", "forget", "()V"⟩
def zy_6 : MethodName := ⟨"ToolMill", "fault", "(I)I"⟩
def zy_7 : MethodName := ⟨"ToolMill", "typed", "(II)I"⟩
def zy_8 : MethodName := ⟨"ToolMill", "unit", "(II)I"⟩
def zy_9 : MethodName := ⟨"ToolMill", "section", "(III)I"⟩
def zy_10 : MethodName := ⟨"ToolMill", "byteOf", "(III)I"⟩
def zy_11 : MethodName := ⟨"ToolMill", "label", "(III)I"⟩
def zy_12 : MethodName := ⟨"ToolMill", "relocation", "(III)I"⟩
def zy_13 : MethodName := ⟨"ToolMill", "input", "(I)I"⟩
def zy_14 : MethodName := ⟨"ToolMill", "link", "(II)I"⟩
def zy_15 : MethodName := ⟨"ToolMill", "run", "(I)I"⟩
def zy_16 : MethodName := ⟨"ToolMill", "state", "(I)I"⟩
def zy_17 : MethodName := ⟨"ToolMill", "register", "(I)I"⟩
def zy_18 : MethodName := ⟨"ToolMill", "word", "(I)I"⟩
def zy_19 : MethodName := ⟨"ToolMill", "output", "(I)I"⟩
def zy_20 : MethodName := ⟨"ToolMill", "listing", "(II)I"⟩
def zy_21 : MethodName := ⟨"ToolMill", "mean", "(I)I"⟩
def zy_22 : MethodName := ⟨"ToolMill", "meant", "(I)I"⟩
def zy_23 : MethodName := ⟨"ToolMill", "said", "(I)I"⟩
def zy_24 : MethodName := ⟨"ToolMillModel", "<init>", "()V"⟩
def zy_25 : MethodName := ⟨"ToolMillModel", "put", "(I)I"⟩
def zy_26 : MethodName := ⟨"ToolMillModel", "end", "(I)V"⟩
def zy_27 : MethodName := ⟨"ToolMillModel", "source", "()I"⟩
def zy_28 : MethodName := ⟨"ToolMillModel", "assemble", "()I"⟩
def zy_29 : MethodName := ⟨"ToolMillModel", "forget", "()V"⟩
def zy_30 : MethodName := ⟨"ToolMillModel", "fault", "(I)I"⟩
def zy_31 : MethodName := ⟨"ToolMillModel", "typed", "(II)I"⟩
def zy_32 : MethodName := ⟨"ToolMillModel", "unit", "(II)I"⟩
def zy_33 : MethodName := ⟨"ToolMillModel", "section", "(III)I"⟩
def zy_34 : MethodName := ⟨"ToolMillModel", "byteOf", "(III)I"⟩
def zy_35 : MethodName := ⟨"ToolMillModel", "label", "(III)I"⟩
def zy_36 : MethodName := ⟨"ToolMillModel", "relocation", "(III)I"⟩
def zy_37 : MethodName := ⟨"ToolMillModel", "input", "(I)I"⟩
def zy_38 : MethodName := ⟨"ToolMillModel", "link", "(II)I"⟩
def zy_39 : MethodName := ⟨"ToolMillModel", "run", "(I)I"⟩
def zy_40 : MethodName := ⟨"ToolMillModel", "state", "(I)I"⟩
def zy_41 : MethodName := ⟨"ToolMillModel", "register", "(I)I"⟩
def zy_42 : MethodName := ⟨"ToolMillModel", "word", "(I)I"⟩
def zy_43 : MethodName := ⟨"ToolMillModel", "output", "(I)I"⟩
def zy_44 : MethodName := ⟨"ToolMillModel", "listing", "(II)I"⟩
def zy_45 : MethodName := ⟨"ToolMillModel", "mean", "(I)I"⟩
def zy_46 : MethodName := ⟨"ToolMillModel", "meant", "(I)I"⟩
def zy_47 : MethodName := ⟨"ToolMillModel", "said", "(I)I"⟩
def zy_48 : MethodName := ⟨"ToolMillModel", "thrown", "()I"⟩
def zy_49 : MethodName := ⟨"ToolMill$Names", "<init>", "()V"⟩
def zy_50 : MethodName := ⟨"ToolMill$Codes", "<init>", "(LToolMill$Names;)V"⟩
def zy_51 : MethodName := ⟨"ToolMill$Reader", "<init>", "(LToolMill$Names;)V"⟩
def zy_52 : MethodName := ⟨"ToolMill$Assembler", "<init>", "(LToolMill$Names;)V"⟩
def zy_53 : MethodName := ⟨"ToolMill$Machine", "<init>", "(LToolMill$Codes;)V"⟩
def zy_54 : MethodName := ⟨"ToolMill$Linker", "<init>", "(LToolMill$Names;LToolMill$Machine;)V"⟩
def zy_55 : MethodName := ⟨"ToolMill$Meaning", "<init>", "(LToolMill$Names;)V"⟩
def zy_56 : MethodName := ⟨"ToolMill$Draft", "<init>", "()V"⟩
def zy_57 : MethodName := ⟨"ToolMill$Unit", "<init>", "(LToolMill$Draft;IIIII)V"⟩
def zy_58 : MethodName := ⟨"java/lang/String", "length", "()I"⟩
def zy_59 : MethodName := ⟨"java/lang/String", "charAt", "(I)C"⟩
def zy_60 : MethodName := ⟨"ToolMill$Assembler", "make", "(LToolMill$Unit;[BI)Z"⟩
def zy_61 : MethodName := ⟨"ToolMill", "nextUnit", "()LToolMill$Unit;"⟩
def zy_62 : MethodName := ⟨"ToolMill$Reader", "read", "([BILToolMill$Draft;)V"⟩
def zy_63 : MethodName := ⟨"ToolMill$Draft", "type", "(LToolMill$Reader;)V"⟩
def zy_64 : MethodName := ⟨"ToolMill", "settled", "(II)I"⟩
def zy_65 : MethodName := ⟨"ToolMill", "unitOf", "(I)LToolMill$Unit;"⟩
def zy_66 : MethodName := ⟨"ToolMill$Names", "signOf", "([JII)I"⟩
def zy_67 : MethodName := ⟨"ToolMill$Linker", "join", "([LToolMill$Unit;III)Z"⟩
def zy_68 : MethodName := ⟨"ToolMill$Machine", "go", "(I[II)I"⟩
def zy_69 : MethodName := ⟨"ToolMill", "needLinked", "()V"⟩
def zy_70 : MethodName := ⟨"ToolMill$Machine", "holds", "(I)Z"⟩
def zy_71 : MethodName := ⟨"ToolMill$Machine", "wordAt", "(I)I"⟩
def zy_72 : MethodName := ⟨"ToolMill$Codes", "signOfWord", "(II)I"⟩
def zy_73 : MethodName := ⟨"ToolMill$Meaning", "resolve", "([LToolMill$Unit;I)Z"⟩
def zy_74 : MethodName := ⟨"ToolMill$Meaning", "work", "(I[II)V"⟩
def zy_75 : MethodName := ⟨"ToolMill", "needMeaning", "()V"⟩
def zy_76 : MethodName := ⟨"ToolMillModel", "knownNames", "()V"⟩
def zy_77 : MethodName := ⟨"ToolMillModel", "runtime", "()V"⟩
def zy_78 : MethodName := ⟨"ToolMillModel", "in", "(III)Z"⟩
def zy_79 : MethodName := ⟨"ToolMillModel", "refuse", "(ZZ)Z"⟩
def zy_80 : MethodName := ⟨"ToolMillModel", "clearNames", "()V"⟩
def zy_81 : MethodName := ⟨"ToolMillModel", "readTokens", "()V"⟩
def zy_82 : MethodName := ⟨"ToolMillModel", "readUnit", "()V"⟩
def zy_83 : MethodName := ⟨"ToolMillModel", "resolve", "()V"⟩
def zy_84 : MethodName := ⟨"ToolMillModel", "typeUnit", "()V"⟩
def zy_85 : MethodName := ⟨"ToolMillModel", "assembleText", "(IZ)Z"⟩
def zy_86 : MethodName := ⟨"ToolMillModel", "unlink", "()V"⟩
def zy_87 : MethodName := ⟨"ToolMillModel", "isUnit", "(I)Z"⟩
def zy_88 : MethodName := ⟨"ToolMillModel", "nameSign", "(II)I"⟩
def zy_89 : MethodName := ⟨"ToolMillModel", "findGivers", "()V"⟩
def zy_90 : MethodName := ⟨"ToolMillModel", "findTwice", "()V"⟩
def zy_91 : MethodName := ⟨"ToolMillModel", "reach", "()V"⟩
def zy_92 : MethodName := ⟨"ToolMillModel", "findMissing", "()V"⟩
def zy_93 : MethodName := ⟨"ToolMillModel", "findUnwanted", "()V"⟩
def zy_94 : MethodName := ⟨"ToolMillModel", "lay", "(IZ)I"⟩
def zy_95 : MethodName := ⟨"ToolMillModel", "linkFault", "(III)V"⟩
def zy_96 : MethodName := ⟨"ToolMillModel", "layAll", "(I)V"⟩
def zy_97 : MethodName := ⟨"ToolMillModel", "beginMachine", "()V"⟩
def zy_98 : MethodName := ⟨"ToolMillModel", "machineStep", "()Z"⟩
def zy_99 : MethodName := ⟨"ToolMillModel", "isIn", "(II)Z"⟩
def zy_100 : MethodName := ⟨"ToolMillModel", "wordIn", "(I)I"⟩
def zy_101 : MethodName := ⟨"ToolMillModel", "instructionOf", "(I)I"⟩
def zy_102 : MethodName := ⟨"ToolMillModel", "showName", "(I)V"⟩
def zy_103 : MethodName := ⟨"ToolMillModel", "show", "(I)V"⟩
def zy_104 : MethodName := ⟨"ToolMillModel", "showNumber", "(I)V"⟩
def zy_105 : MethodName := ⟨"ToolMillModel", "showOperands", "(II)V"⟩
def zy_106 : MethodName := ⟨"ToolMillModel", "meansWell", "()Z"⟩
def zy_107 : MethodName := ⟨"ToolMillModel", "findLeads", "(I)V"⟩
def zy_108 : MethodName := ⟨"ToolMillModel", "nameOf", "(JJ)I"⟩
def zy_109 : MethodName := ⟨"ToolMillModel", "declOf", "(II)I"⟩
def zy_110 : MethodName := ⟨"ToolMillModel", "beginCall", "(IIII)V"⟩
def zy_111 : MethodName := ⟨"ToolMillModel", "meanStep", "()V"⟩
def zy_112 : MethodName := ⟨"ToolMill$Names", "load", "(Ljava/lang/String;)V"⟩
def zy_113 : MethodName := ⟨"java/lang/StringBuilder", "<init>", "()V"⟩
def zy_114 : MethodName := ⟨"java/util/Arrays", "fill", "([II)V"⟩
def zy_115 : MethodName := ⟨"ToolMill$Lines", "<init>", "(LToolMill$Names;)V"⟩
def zy_116 : MethodName := ⟨"ToolMill$Scanner", "<init>", "(LToolMill$Names;)V"⟩
def zy_117 : MethodName := ⟨"java/lang/String", "coder", "()B"⟩
def zy_118 : MethodName := ⟨"java/lang/String", "isLatin1", "()Z"⟩
def zy_119 : MethodName := ⟨"java/lang/StringLatin1", "charAt", "([BI)C"⟩
def zy_120 : MethodName := ⟨"java/lang/StringUTF16", "charAt", "([BI)C"⟩
def zy_121 : MethodName := ⟨"ToolMill$Names", "clear", "()V"⟩
def zy_122 : MethodName := ⟨"ToolMill$Lines", "begin", "([BI)V"⟩
def zy_123 : MethodName := ⟨"ToolMill$Unit", "clear", "()V"⟩
def zy_124 : MethodName := ⟨"ToolMill$Assembler", "named", "(Ljava/lang/String;)J"⟩
def zy_125 : MethodName := ⟨"ToolMill$Assembler", "openSection", "(JJZ)V"⟩
def zy_126 : MethodName := ⟨"ToolMill$Lines", "advance", "()Z"⟩
def zy_127 : MethodName := ⟨"ToolMill$Assembler", "oneLine", "()I"⟩
def zy_128 : MethodName := ⟨"ToolMill$Assembler", "settle", "()V"⟩
def zy_129 : MethodName := ⟨"ToolMill$Draft", "clear", "()V"⟩
def zy_130 : MethodName := ⟨"ToolMill$Reader", "split", "([BI)V"⟩
def zy_131 : MethodName := ⟨"ToolMill$Reader", "kind", "()I"⟩
def zy_132 : MethodName := ⟨"ToolMill$Reader", "pass", "()V"⟩
def zy_133 : MethodName := ⟨"ToolMill$Reader", "variable", "(Z)V"⟩
def zy_134 : MethodName := ⟨"ToolMill$Reader", "procedure", "()V"⟩
def zy_135 : MethodName := ⟨"ToolMill$Reader", "wrong", "()V"⟩
def zy_136 : MethodName := ⟨"ToolMill$Reader", "judge", "()V"⟩
def zy_137 : MethodName := ⟨"ToolMill$Draft", "declaration", "(II)V"⟩
def zy_138 : MethodName := ⟨"ToolMill$Draft", "use", "(II)I"⟩
def zy_139 : MethodName := ⟨"ToolMill$Draft", "turn", "(II)V"⟩
def zy_140 : MethodName := ⟨"ToolMill$Draft", "two", "(I)V"⟩
def zy_141 : MethodName := ⟨"ToolMill$Draft", "single", "(II)V"⟩
def zy_142 : MethodName := ⟨"ToolMill$Draft", "say", "(Ljava/lang/String;I)V"⟩
def zy_143 : MethodName := ⟨"ToolMill$Linker", "gather", "()V"⟩
def zy_144 : MethodName := ⟨"ToolMill$Linker", "reach", "()V"⟩
def zy_145 : MethodName := ⟨"ToolMill$Linker", "findMissing", "()V"⟩
def zy_146 : MethodName := ⟨"ToolMill$Linker", "askWants", "()V"⟩
def zy_147 : MethodName := ⟨"ToolMill$Linker", "lay", "(I)V"⟩
def zy_148 : MethodName := ⟨"ToolMill$Linker", "blame", "(III)V"⟩
def zy_149 : MethodName := ⟨"ToolMill$Linker", "checkAims", "()V"⟩
def zy_150 : MethodName := ⟨"ToolMill$Linker", "fillMachine", "(II)V"⟩
def zy_151 : MethodName := ⟨"ToolMill$Machine", "step", "()Z"⟩
def zy_152 : MethodName := ⟨"java/lang/StringBuilder", "setLength", "(I)V"⟩
def zy_153 : MethodName := ⟨"ToolMill$Codes", "decode", "(I)I"⟩
def zy_154 : MethodName := ⟨"java/lang/StringBuilder", "append", "(Ljava/lang/String;)Ljava/lang/StringBuilder;"⟩
def zy_155 : MethodName := ⟨"java/lang/StringBuilder", "append", "(I)Ljava/lang/StringBuilder;"⟩
def zy_156 : MethodName := ⟨"ToolMill$Codes", "nameOf", "(I)V"⟩
def zy_157 : MethodName := ⟨"ToolMill$Codes", "operands", "(II)V"⟩
def zy_158 : MethodName := ⟨"java/lang/StringBuilder", "append", "(C)Ljava/lang/StringBuilder;"⟩
def zy_159 : MethodName := ⟨"java/lang/StringBuilder", "length", "()I"⟩
def zy_160 : MethodName := ⟨"java/lang/StringBuilder", "charAt", "(I)C"⟩
def zy_161 : MethodName := ⟨"ToolMill$Meaning", "gather", "(ILToolMill$Draft;)Z"⟩
def zy_162 : MethodName := ⟨"ToolMill$Meaning", "resolveOuter", "(ILToolMill$Draft;)Z"⟩
def zy_163 : MethodName := ⟨"ToolMill$Names", "find", "(JJ)I"⟩
def zy_164 : MethodName := ⟨"ToolMill$Meaning", "kindOf", "(I)I"⟩
def zy_165 : MethodName := ⟨"java/util/Arrays", "fill", "([IIII)V"⟩
def zy_166 : MethodName := ⟨"ToolMill$Meaning", "enter", "(II)V"⟩
def zy_167 : MethodName := ⟨"ToolMill$Meaning", "finish", "(II)V"⟩
def zy_168 : MethodName := ⟨"ToolMill$Meaning", "perform", "(II)V"⟩
def zy_169 : MethodName := ⟨"ToolMillModel", "known", "(JJ)V"⟩
def zy_170 : MethodName := ⟨"ToolMillModel", "knownCodes", "()V"⟩
def zy_171 : MethodName := ⟨"ToolMillModel", "sectionOf", "(I)I"⟩
def zy_172 : MethodName := ⟨"ToolMillModel", "keepName", "(I)V"⟩
def zy_173 : MethodName := ⟨"ToolMillModel", "hasName", "(I)Z"⟩
def zy_174 : MethodName := ⟨"ToolMillModel", "renameUnit", "(I)V"⟩
def zy_175 : MethodName := ⟨"ToolMillModel", "isSmall", "(I)Z"⟩
def zy_176 : MethodName := ⟨"ToolMillModel", "isDigit", "(I)Z"⟩
def zy_177 : MethodName := ⟨"ToolMillModel", "token", "(III)V"⟩
def zy_178 : MethodName := ⟨"ToolMillModel", "at", "(I)I"⟩
def zy_179 : MethodName := ⟨"ToolMillModel", "isSign", "(I)Z"⟩
def zy_180 : MethodName := ⟨"ToolMillModel", "is", "(I)Z"⟩
def zy_181 : MethodName := ⟨"ToolMillModel", "need", "(I)V"⟩
def zy_182 : MethodName := ⟨"ToolMillModel", "readSize", "()I"⟩
def zy_183 : MethodName := ⟨"ToolMillModel", "declare", "(IIII)V"⟩
def zy_184 : MethodName := ⟨"ToolMillModel", "procedure", "()V"⟩
def zy_185 : MethodName := ⟨"ToolMillModel", "refuseToken", "()V"⟩
def zy_186 : MethodName := ⟨"ToolMillModel", "freshOf", "(I)I"⟩
def zy_187 : MethodName := ⟨"ToolMillModel", "outerOf", "(I)I"⟩
def zy_188 : MethodName := ⟨"ToolMillModel", "wrong", "(II)V"⟩
def zy_189 : MethodName := ⟨"ToolMillModel", "declareLines", "(IIZ)V"⟩
def zy_190 : MethodName := ⟨"ToolMillModel", "globalLines", "(II)V"⟩
def zy_191 : MethodName := ⟨"ToolMillModel", "say", "(I)V"⟩
def zy_192 : MethodName := ⟨"ToolMillModel", "operation", "(J)V"⟩
def zy_193 : MethodName := ⟨"ToolMillModel", "line", "()V"⟩
def zy_194 : MethodName := ⟨"ToolMillModel", "sayNumber", "(I)V"⟩
def zy_195 : MethodName := ⟨"ToolMillModel", "typeStep", "(I)V"⟩
def zy_196 : MethodName := ⟨"ToolMillModel", "sayName", "(I)V"⟩
def zy_197 : MethodName := ⟨"ToolMillModel", "comma", "()V"⟩
def zy_198 : MethodName := ⟨"ToolMillModel", "beginUnit", "(I)V"⟩
def zy_199 : MethodName := ⟨"ToolMillModel", "findLines", "()V"⟩
def zy_200 : MethodName := ⟨"ToolMillModel", "openFrame", "(IIIII)V"⟩
def zy_201 : MethodName := ⟨"ToolMillModel", "nextLine", "()V"⟩
def zy_202 : MethodName := ⟨"ToolMillModel", "layBytes", "()V"⟩
def zy_203 : MethodName := ⟨"ToolMillModel", "settle", "()V"⟩
def zy_204 : MethodName := ⟨"ToolMillModel", "nthUnit", "(I)I"⟩
def zy_205 : MethodName := ⟨"ToolMillModel", "giver", "(I)I"⟩
def zy_206 : MethodName := ⟨"ToolMillModel", "isRelocationReached", "(I)Z"⟩
def zy_207 : MethodName := ⟨"ToolMillModel", "targetOf", "(I)I"⟩
def zy_208 : MethodName := ⟨"ToolMillModel", "mend", "(I)Z"⟩
def zy_209 : MethodName := ⟨"ToolMillModel", "stop0", "(II)V"⟩
def zy_210 : MethodName := ⟨"ToolMillModel", "syscall", "()V"⟩
def zy_211 : MethodName := ⟨"ToolMillModel", "field", "(III)I"⟩
def zy_212 : MethodName := ⟨"ToolMillModel", "leadsTo", "(III)I"⟩
def zy_213 : MethodName := ⟨"ToolMillModel", "touch", "(II)V"⟩
def zy_214 : MethodName := ⟨"ToolMillModel", "half", "(II)V"⟩
def zy_215 : MethodName := ⟨"ToolMillModel", "row", "(II)V"⟩
def zy_216 : MethodName := ⟨"ToolMillModel", "byteIn", "(I)I"⟩
def zy_217 : MethodName := ⟨"ToolMillModel", "showRegister", "(IZ)V"⟩
def zy_218 : MethodName := ⟨"ToolMillModel", "ends", "(II)V"⟩
def zy_219 : MethodName := ⟨"ToolMillModel", "heldAt", "(I)I"⟩
def zy_220 : MethodName := ⟨"ToolMillModel", "pay", "()Z"⟩
def zy_221 : MethodName := ⟨"ToolMillModel", "endCall", "(I)V"⟩
def zy_222 : MethodName := ⟨"ToolMillModel", "value0", "(I)V"⟩
def zy_223 : MethodName := ⟨"ToolMill$Names", "numberOf", "(JJ)I"⟩
def zy_224 : MethodName := ⟨"java/lang/AbstractStringBuilder", "<init>", "(I)V"⟩
def zy_225 : MethodName := ⟨"java/lang/String", "checkIndex", "(II)V"⟩
def zy_226 : MethodName := ⟨"java/lang/StringUTF16", "checkIndex", "(I[B)V"⟩
def zy_227 : MethodName := ⟨"java/lang/StringUTF16", "getChar", "([BI)C"⟩
def zy_228 : MethodName := ⟨"ToolMill$Lines", "push", "(IIII)V"⟩
def zy_229 : MethodName := ⟨"ToolMill$Unit", "findSection", "(JJ)I"⟩
def zy_230 : MethodName := ⟨"ToolMill$Scanner", "meet", "(I)V"⟩
def zy_231 : MethodName := ⟨"ToolMill$Unit", "addSection", "(JJZ)Z"⟩
def zy_232 : MethodName := ⟨"ToolMill$Lines", "take", "()Z"⟩
def zy_233 : MethodName := ⟨"ToolMill$Lines", "comes", "()Z"⟩
def zy_234 : MethodName := ⟨"ToolMill$Lines", "passOver", "()I"⟩
def zy_235 : MethodName := ⟨"ToolMill$Lines", "expand", "()I"⟩
def zy_236 : MethodName := ⟨"ToolMill$Scanner", "begin", "([BI)V"⟩
def zy_237 : MethodName := ⟨"ToolMill$Scanner", "colonBehind", "()Z"⟩
def zy_238 : MethodName := ⟨"ToolMill$Assembler", "addLabel", "()V"⟩
def zy_239 : MethodName := ⟨"ToolMill$Scanner", "pass", "()V"⟩
def zy_240 : MethodName := ⟨"ToolMill$Scanner", "kind", "()I"⟩
def zy_241 : MethodName := ⟨"ToolMill$Scanner", "first", "()J"⟩
def zy_242 : MethodName := ⟨"ToolMill$Scanner", "second", "()J"⟩
def zy_243 : MethodName := ⟨"ToolMill$Lines", "macroNamed", "(JJ)I"⟩
def zy_244 : MethodName := ⟨"ToolMill$Scanner", "number", "()I"⟩
def zy_245 : MethodName := ⟨"ToolMill$Scanner", "behind", "()I"⟩
def zy_246 : MethodName := ⟨"ToolMill$Lines", "call", "(II)I"⟩
def zy_247 : MethodName := ⟨"ToolMill$Assembler", "instruction", "(I)V"⟩
def zy_248 : MethodName := ⟨"ToolMill$Assembler", "macroLine", "()V"⟩
def zy_249 : MethodName := ⟨"ToolMill$Assembler", "directive", "(I)V"⟩
def zy_250 : MethodName := ⟨"ToolMill$Assembler", "control", "(I)V"⟩
def zy_251 : MethodName := ⟨"ToolMill$Assembler", "aimAtName", "(I)V"⟩
def zy_252 : MethodName := ⟨"ToolMill$Assembler", "setDistance", "(I)Z"⟩
def zy_253 : MethodName := ⟨"ToolMill$Reader", "behindBlanks", "([BII)I"⟩
def zy_254 : MethodName := ⟨"ToolMill", "isSmallLetter", "(I)Z"⟩
def zy_255 : MethodName := ⟨"ToolMill$Reader", "wordToken", "([BIII)I"⟩
def zy_256 : MethodName := ⟨"ToolMill", "isDigit", "(I)Z"⟩
def zy_257 : MethodName := ⟨"ToolMill$Reader", "numberToken", "([BIII)I"⟩
def zy_258 : MethodName := ⟨"ToolMill$Reader", "signToken", "(II)I"⟩
def zy_259 : MethodName := ⟨"ToolMill$Reader", "tokenValue", "()I"⟩
def zy_260 : MethodName := ⟨"ToolMill$Reader", "place", "()I"⟩
def zy_261 : MethodName := ⟨"ToolMill$Reader", "arraySize", "()I"⟩
def zy_262 : MethodName := ⟨"ToolMill$Reader", "expect", "(I)V"⟩
def zy_263 : MethodName := ⟨"ToolMill$Reader", "addLocal", "(III)V"⟩
def zy_264 : MethodName := ⟨"ToolMill$Reader", "declare", "(IIII)I"⟩
def zy_265 : MethodName := ⟨"ToolMill$Draft", "add", "(III)V"⟩
def zy_266 : MethodName := ⟨"ToolMill$Reader", "enter", "(I)Z"⟩
def zy_267 : MethodName := ⟨"ToolMill$Reader", "parameters", "()V"⟩
def zy_268 : MethodName := ⟨"ToolMill$Reader", "leave", "(I)V"⟩
def zy_269 : MethodName := ⟨"ToolMill$Reader", "block", "()V"⟩
def zy_270 : MethodName := ⟨"ToolMill$Reader", "hide", "(I)V"⟩
def zy_271 : MethodName := ⟨"ToolMill$Reader", "aimUses", "()I"⟩
def zy_272 : MethodName := ⟨"ToolMill$Draft", "opening", "(I)V"⟩
def zy_273 : MethodName := ⟨"ToolMill$Draft", "frameOf", "(I)I"⟩
def zy_274 : MethodName := ⟨"ToolMill$Draft", "local", "(III)V"⟩
def zy_275 : MethodName := ⟨"ToolMill$Draft", "call", "(II)V"⟩
def zy_276 : MethodName := ⟨"ToolMill$Draft", "global", "(I)V"⟩
def zy_277 : MethodName := ⟨"ToolMill$Draft", "sign", "(I)V"⟩
def zy_278 : MethodName := ⟨"ToolMill$Draft", "digits", "(I)V"⟩
def zy_279 : MethodName := ⟨"ToolMill$Linker", "has", "(I)Z"⟩
def zy_280 : MethodName := ⟨"ToolMill$Linker", "mark", "(II)V"⟩
def zy_281 : MethodName := ⟨"ToolMill$Linker", "aim", "(II)Z"⟩
def zy_282 : MethodName := ⟨"ToolMill$Linker", "counts", "(II)Z"⟩
def zy_283 : MethodName := ⟨"ToolMill$Linker", "layAll", "(II)I"⟩
def zy_284 : MethodName := ⟨"ToolMill$Linker", "aimAddress", "()I"⟩
def zy_285 : MethodName := ⟨"ToolMill$Linker", "addressOf", "(II)I"⟩
def zy_286 : MethodName := ⟨"ToolMill$Codes", "isDistance", "(I)Z"⟩
def zy_287 : MethodName := ⟨"ToolMill$Machine", "begin", "(IIIII)V"⟩
def zy_288 : MethodName := ⟨"ToolMill$Machine", "setByte", "(II)V"⟩
def zy_289 : MethodName := ⟨"ToolMill$Linker", "mend", "(III)V"⟩
def zy_290 : MethodName := ⟨"ToolMill$Machine", "stop", "(II)Z"⟩
def zy_291 : MethodName := ⟨"ToolMill$Machine", "perform", "(II)Z"⟩
def zy_292 : MethodName := ⟨"java/lang/AbstractStringBuilder", "setLength", "(I)V"⟩
def zy_293 : MethodName := ⟨"java/lang/AbstractStringBuilder", "append", "(Ljava/lang/String;)Ljava/lang/AbstractStringBuilder;"⟩
def zy_294 : MethodName := ⟨"java/lang/AbstractStringBuilder", "append", "(I)Ljava/lang/AbstractStringBuilder;"⟩
def zy_295 : MethodName := ⟨"ToolMill$Codes", "three", "(IIII)V"⟩
def zy_296 : MethodName := ⟨"ToolMill$Codes", "two", "(III)V"⟩
def zy_297 : MethodName := ⟨"ToolMill$Codes", "amount", "(CI)V"⟩
def zy_298 : MethodName := ⟨"ToolMill$Codes", "one", "(CII)V"⟩
def zy_299 : MethodName := ⟨"java/lang/AbstractStringBuilder", "append", "(C)Ljava/lang/AbstractStringBuilder;"⟩
def zy_300 : MethodName := ⟨"java/lang/AbstractStringBuilder", "length", "()I"⟩
def zy_301 : MethodName := ⟨"java/lang/AbstractStringBuilder", "charAt", "(I)C"⟩
def zy_302 : MethodName := ⟨"java/util/Arrays", "rangeCheck", "(III)V"⟩
def zy_303 : MethodName := ⟨"java/lang/Math", "min", "(II)I"⟩
def zy_304 : MethodName := ⟨"java/lang/Math", "max", "(II)I"⟩
def zy_305 : MethodName := ⟨"ToolMill$Meaning", "combine", "(III)I"⟩
def zy_306 : MethodName := ⟨"ToolMill$Meaning", "leave", "(I)V"⟩
def zy_307 : MethodName := ⟨"ToolMill$Meaning", "step", "()V"⟩
def zy_308 : MethodName := ⟨"ToolMill$Meaning", "nextInput", "()I"⟩
def zy_309 : MethodName := ⟨"ToolMill$Meaning", "say", "(I)V"⟩
def zy_310 : MethodName := ⟨"ToolMill$Meaning", "useName", "(IIII)V"⟩
def zy_311 : MethodName := ⟨"ToolMillModel", "renamed", "(I)I"⟩
def zy_312 : MethodName := ⟨"ToolMillModel", "opens", "()V"⟩
def zy_313 : MethodName := ⟨"ToolMillModel", "visibleLocal", "(I)I"⟩
def zy_314 : MethodName := ⟨"ToolMillModel", "addLocal", "(II)V"⟩
def zy_315 : MethodName := ⟨"ToolMillModel", "step", "(IIIII)V"⟩
def zy_316 : MethodName := ⟨"ToolMillModel", "beginBlock", "(I)V"⟩
def zy_317 : MethodName := ⟨"ToolMillModel", "endBlock", "()Z"⟩
def zy_318 : MethodName := ⟨"ToolMillModel", "statement", "(I)V"⟩
def zy_319 : MethodName := ⟨"ToolMillModel", "sayWord", "(J)V"⟩
def zy_320 : MethodName := ⟨"ToolMillModel", "typeBegin", "(I)V"⟩
def zy_321 : MethodName := ⟨"ToolMillModel", "typeFinish", "()V"⟩
def zy_322 : MethodName := ⟨"ToolMillModel", "temporary", "(I)V"⟩
def zy_323 : MethodName := ⟨"ToolMillModel", "typeInput", "(I)V"⟩
def zy_324 : MethodName := ⟨"ToolMillModel", "typeLoad", "(IIIZ)V"⟩
def zy_325 : MethodName := ⟨"ToolMillModel", "typeCheck", "(IIII)V"⟩
def zy_326 : MethodName := ⟨"ToolMillModel", "typeWord", "(JIIII)V"⟩
def zy_327 : MethodName := ⟨"ToolMillModel", "typeCall", "(IIIZ)V"⟩
def zy_328 : MethodName := ⟨"ToolMillModel", "typeUnary", "(II)V"⟩
def zy_329 : MethodName := ⟨"ToolMillModel", "typeBinary", "(II)V"⟩
def zy_330 : MethodName := ⟨"ToolMillModel", "register0", "(J)V"⟩
def zy_331 : MethodName := ⟨"ToolMillModel", "jumpTo", "(IZ)V"⟩
def zy_332 : MethodName := ⟨"ToolMillModel", "typeOut", "()V"⟩
def zy_333 : MethodName := ⟨"ToolMillModel", "typeBranch", "(II)V"⟩
def zy_334 : MethodName := ⟨"ToolMillModel", "addSection", "(IZ)V"⟩
def zy_335 : MethodName := ⟨"ToolMillModel", "sourceAt", "(I)I"⟩
def zy_336 : MethodName := ⟨"ToolMillModel", "endFrame", "(I)V"⟩
def zy_337 : MethodName := ⟨"ToolMillModel", "countLine", "(I)V"⟩
def zy_338 : MethodName := ⟨"ToolMillModel", "firstOperation", "(I)I"⟩
def zy_339 : MethodName := ⟨"ToolMillModel", "passLine", "(I)V"⟩
def zy_340 : MethodName := ⟨"ToolMillModel", "takeLine", "(II)V"⟩
def zy_341 : MethodName := ⟨"ToolMillModel", "lookAtLine", "()V"⟩
def zy_342 : MethodName := ⟨"ToolMillModel", "settleUse", "(I)V"⟩
def zy_343 : MethodName := ⟨"ToolMillModel", "kindOf", "(I)I"⟩
def zy_344 : MethodName := ⟨"ToolMillModel", "isGlobal", "(I)Z"⟩
def zy_345 : MethodName := ⟨"ToolMillModel", "addressOf", "(I)I"⟩
def zy_346 : MethodName := ⟨"ToolMillModel", "putHalf", "(II)V"⟩
def zy_347 : MethodName := ⟨"ToolMillModel", "set", "(II)V"⟩
def zy_348 : MethodName := ⟨"ToolMillModel", "mayTouch", "(II)Z"⟩
def zy_349 : MethodName := ⟨"ToolMillModel", "rowBehind", "(IIII)V"⟩
def zy_350 : MethodName := ⟨"ToolMillModel", "hold", "(II)V"⟩
def zy_351 : MethodName := ⟨"ToolMillModel", "takeInput", "(I)V"⟩
def zy_352 : MethodName := ⟨"ToolMillModel", "storeOf", "(I)I"⟩
def zy_353 : MethodName := ⟨"ToolMillModel", "binary", "(III)I"⟩
def zy_354 : MethodName := ⟨"java/lang/StringUTF16", "newBytesFor", "(I)[B"⟩
def zy_355 : MethodName := ⟨"jdk/internal/util/Preconditions", "checkIndex", "(IILjava/util/function/BiFunction;)I"⟩
def zy_356 : MethodName := ⟨"java/lang/StringUTF16", "length", "([B)I"⟩
def zy_357 : MethodName := ⟨"ToolMill$Lines", "firstWord", "()I"⟩
def zy_358 : MethodName := ⟨"ToolMill$Lines", "openIf", "(Z)I"⟩
def zy_359 : MethodName := ⟨"ToolMill$Lines", "turnIf", "()I"⟩
def zy_360 : MethodName := ⟨"ToolMill$Lines", "closeIf", "()I"⟩
def zy_361 : MethodName := ⟨"ToolMill$Lines", "give", "(B)V"⟩
def zy_362 : MethodName := ⟨"ToolMill$Lines", "giveNumber", "(I)V"⟩
def zy_363 : MethodName := ⟨"ToolMill", "isWordSign", "(I)Z"⟩
def zy_364 : MethodName := ⟨"ToolMill$Lines", "giveArgument", "(III)Z"⟩
def zy_365 : MethodName := ⟨"ToolMill$Scanner", "token", "(II)I"⟩
def zy_366 : MethodName := ⟨"ToolMill$Unit", "sizeOf", "(I)I"⟩
def zy_367 : MethodName := ⟨"ToolMill$Assembler", "wordLabel", "()V"⟩
def zy_368 : MethodName := ⟨"ToolMill$Scanner", "isOneDigit", "()Z"⟩
def zy_369 : MethodName := ⟨"ToolMill$Assembler", "digitLabel", "(II)V"⟩
def zy_370 : MethodName := ⟨"ToolMill$Lines", "argumentsOf", "(I)I"⟩
def zy_371 : MethodName := ⟨"ToolMill$Lines", "argument", "(III)V"⟩
def zy_372 : MethodName := ⟨"ToolMill$Lines", "isBlank", "(II)Z"⟩
def zy_373 : MethodName := ⟨"ToolMill$Assembler", "memory", "(I)I"⟩
def zy_374 : MethodName := ⟨"ToolMill$Assembler", "other", "(I)I"⟩
def zy_375 : MethodName := ⟨"ToolMill$Assembler", "plain", "(II)I"⟩
def zy_376 : MethodName := ⟨"ToolMill$Scanner", "close", "()V"⟩
def zy_377 : MethodName := ⟨"ToolMill$Assembler", "emit", "(III)V"⟩
def zy_378 : MethodName := ⟨"ToolMill$Assembler", "emitNumber", "(II)V"⟩
def zy_379 : MethodName := ⟨"ToolMill$Assembler", "emitOther", "(II)V"⟩
def zy_380 : MethodName := ⟨"ToolMill$Scanner", "expect", "(I)V"⟩
def zy_381 : MethodName := ⟨"ToolMill$Assembler", "parameters", "()I"⟩
def zy_382 : MethodName := ⟨"ToolMill$Lines", "define", "(JJI)I"⟩
def zy_383 : MethodName := ⟨"ToolMill$Assembler", "sectionLine", "(Z)V"⟩
def zy_384 : MethodName := ⟨"ToolMill$Assembler", "tell", "(IZ)V"⟩
def zy_385 : MethodName := ⟨"ToolMill$Assembler", "want", "()V"⟩
def zy_386 : MethodName := ⟨"ToolMill$Assembler", "row", "(III)V"⟩
def zy_387 : MethodName := ⟨"ToolMill$Scanner", "whole", "(II)I"⟩
def zy_388 : MethodName := ⟨"ToolMill$Assembler", "fill", "(I)V"⟩
def zy_389 : MethodName := ⟨"ToolMill$Assembler", "align", "()V"⟩
def zy_390 : MethodName := ⟨"ToolMill$Assembler", "constant", "()V"⟩
def zy_391 : MethodName := ⟨"ToolMill$Assembler", "ifSame", "(I)V"⟩
def zy_392 : MethodName := ⟨"ToolMill$Lines", "repeat", "(I)I"⟩
def zy_393 : MethodName := ⟨"ToolMill$Unit", "write", "(IIII)V"⟩
def zy_394 : MethodName := ⟨"ToolMill$Names", "pack", "([BII)J"⟩
def zy_395 : MethodName := ⟨"java/lang/String", "indexOf", "(I)I"⟩
def zy_396 : MethodName := ⟨"ToolMill$Reader", "much", "(I)V"⟩
def zy_397 : MethodName := ⟨"ToolMill$Reader", "show", "(IIII)V"⟩
def zy_398 : MethodName := ⟨"ToolMill$Reader", "twice", "(I)V"⟩
def zy_399 : MethodName := ⟨"ToolMill$Reader", "statement", "()V"⟩
def zy_400 : MethodName := ⟨"ToolMill$Reader", "addOuter", "(III)V"⟩
def zy_401 : MethodName := ⟨"ToolMill$Machine", "setPart", "(III)V"⟩
def zy_402 : MethodName := ⟨"ToolMill$Machine", "setWord", "(II)V"⟩
def zy_403 : MethodName := ⟨"ToolMill$Machine", "combined", "(III)I"⟩
def zy_404 : MethodName := ⟨"ToolMill$Machine", "set", "(II)V"⟩
def zy_405 : MethodName := ⟨"ToolMill$Machine", "shifted", "(III)I"⟩
def zy_406 : MethodName := ⟨"ToolMill$Machine", "multiply", "(III)V"⟩
def zy_407 : MethodName := ⟨"ToolMill$Machine", "single", "(II)V"⟩
def zy_408 : MethodName := ⟨"ToolMill$Machine", "syscall", "()Z"⟩
def zy_409 : MethodName := ⟨"ToolMill$Machine", "immediate", "(III)I"⟩
def zy_410 : MethodName := ⟨"ToolMill$Machine", "access", "(III)Z"⟩
def zy_411 : MethodName := ⟨"ToolMill$Machine", "branch", "(IIII)V"⟩
def zy_412 : MethodName := ⟨"java/lang/AbstractStringBuilder", "ensureCapacityInternal", "(I)V"⟩
def zy_413 : MethodName := ⟨"java/lang/AbstractStringBuilder", "isLatin1", "()Z"⟩
def zy_414 : MethodName := ⟨"java/lang/StringLatin1", "fillNull", "([BII)V"⟩
def zy_415 : MethodName := ⟨"java/lang/StringUTF16", "fillNull", "([BII)V"⟩
def zy_416 : MethodName := ⟨"java/lang/AbstractStringBuilder", "appendNull", "()Ljava/lang/AbstractStringBuilder;"⟩
def zy_417 : MethodName := ⟨"java/lang/AbstractStringBuilder", "putStringAt", "(ILjava/lang/String;)V"⟩
def zy_418 : MethodName := ⟨"java/lang/Integer", "stringSize", "(I)I"⟩
def zy_419 : MethodName := ⟨"java/lang/Integer", "getChars", "(II[B)I"⟩
def zy_420 : MethodName := ⟨"java/lang/StringUTF16", "getChars", "(III[B)I"⟩
def zy_421 : MethodName := ⟨"java/lang/StringLatin1", "canEncode", "(C)Z"⟩
def zy_422 : MethodName := ⟨"java/lang/AbstractStringBuilder", "inflate", "()V"⟩
def zy_423 : MethodName := ⟨"java/lang/StringUTF16", "putCharSB", "([BII)V"⟩
def zy_424 : MethodName := ⟨"ToolMill$Meaning", "addressOf", "(I)I"⟩
def zy_425 : MethodName := ⟨"ToolMill$Meaning", "sizeOf", "(I)I"⟩
def zy_426 : MethodName := ⟨"ToolMillModel", "declareLocal", "(I)V"⟩
def zy_427 : MethodName := ⟨"ToolMillModel", "nameStatement", "()V"⟩
def zy_428 : MethodName := ⟨"ToolMillModel", "condition", "()V"⟩
def zy_429 : MethodName := ⟨"ToolMillModel", "expression", "(I)V"⟩
def zy_430 : MethodName := ⟨"ToolMillModel", "takeLabel", "()I"⟩
def zy_431 : MethodName := ⟨"ToolMillModel", "frameOf", "(I)I"⟩
def zy_432 : MethodName := ⟨"ToolMillModel", "onStack", "(I)V"⟩
def zy_433 : MethodName := ⟨"ToolMillModel", "argument", "(I)V"⟩
def zy_434 : MethodName := ⟨"ToolMillModel", "labelLine", "(I)V"⟩
def zy_435 : MethodName := ⟨"ToolMillModel", "sayLabel", "(I)V"⟩
def zy_436 : MethodName := ⟨"ToolMillModel", "three", "(JIII)V"⟩
def zy_437 : MethodName := ⟨"ToolMillModel", "twoOf", "(JII)V"⟩
def zy_438 : MethodName := ⟨"ToolMillModel", "moveFrom", "(JI)V"⟩
def zy_439 : MethodName := ⟨"ToolMillModel", "typeDivision", "(IZ)V"⟩
def zy_440 : MethodName := ⟨"ToolMillModel", "typeCompare", "(II)V"⟩
def zy_441 : MethodName := ⟨"ToolMillModel", "failAt", "(II)V"⟩
def zy_442 : MethodName := ⟨"ToolMillModel", "isWordBegin", "(I)Z"⟩
def zy_443 : MethodName := ⟨"ToolMillModel", "isWordSign", "(I)Z"⟩
def zy_444 : MethodName := ⟨"ToolMillModel", "openIf", "(ZZ)V"⟩
def zy_445 : MethodName := ⟨"ToolMillModel", "turnIf", "(I)V"⟩
def zy_446 : MethodName := ⟨"ToolMillModel", "add", "(I)V"⟩
def zy_447 : MethodName := ⟨"ToolMillModel", "addNumber", "(I)V"⟩
def zy_448 : MethodName := ⟨"ToolMillModel", "addArgument", "(III)I"⟩
def zy_449 : MethodName := ⟨"ToolMillModel", "fail", "(I)V"⟩
def zy_450 : MethodName := ⟨"ToolMillModel", "blanks", "()V"⟩
def zy_451 : MethodName := ⟨"ToolMillModel", "here", "()I"⟩
def zy_452 : MethodName := ⟨"ToolMillModel", "readWord", "()I"⟩
def zy_453 : MethodName := ⟨"ToolMillModel", "isNext", "(I)Z"⟩
def zy_454 : MethodName := ⟨"ToolMillModel", "operate", "(IZ)V"⟩
def zy_455 : MethodName := ⟨"ToolMillModel", "wordLabel", "(I)V"⟩
def zy_456 : MethodName := ⟨"ToolMillModel", "digitLabel", "(I)V"⟩
def zy_457 : MethodName := ⟨"ToolMillModel", "labelOf", "(I)I"⟩
def zy_458 : MethodName := ⟨"ToolMillModel", "multiply", "(IIZ)V"⟩
def zy_459 : MethodName := ⟨"ToolMillModel", "divide", "(IIZ)V"⟩
def zy_460 : MethodName := ⟨"java/lang/StringUTF16", "newBytesLength", "(I)I"⟩
def zy_461 : MethodName := ⟨"ToolMill$Scanner", "numberToken", "(II)I"⟩
def zy_462 : MethodName := ⟨"ToolMill$Scanner", "behindWord", "(I)I"⟩
def zy_463 : MethodName := ⟨"ToolMill$Scanner", "registerToken", "(II)I"⟩
def zy_464 : MethodName := ⟨"ToolMill$Unit", "addLabel", "(JJII)Z"⟩
def zy_465 : MethodName := ⟨"ToolMill$Scanner", "reg", "(I)I"⟩
def zy_466 : MethodName := ⟨"ToolMill$Scanner", "part", "()I"⟩
def zy_467 : MethodName := ⟨"ToolMill$Scanner", "value", "()V"⟩
def zy_468 : MethodName := ⟨"ToolMill$Scanner", "commaReg", "(I)I"⟩
def zy_469 : MethodName := ⟨"ToolMill$Scanner", "commaWhole", "(II)I"⟩
def zy_470 : MethodName := ⟨"ToolMill$Assembler", "commaTarget", "()I"⟩
def zy_471 : MethodName := ⟨"ToolMill$Scanner", "target", "()V"⟩
def zy_472 : MethodName := ⟨"ToolMill$Assembler", "commaHalf", "(III)I"⟩
def zy_473 : MethodName := ⟨"ToolMill$Codes", "turns", "(I)Z"⟩
def zy_474 : MethodName := ⟨"ToolMill$Assembler", "movesLast", "(III)Z"⟩
def zy_475 : MethodName := ⟨"ToolMill$Assembler", "addUse", "(II)I"⟩
def zy_476 : MethodName := ⟨"ToolMill$Unit", "grow", "(II)Z"⟩
def zy_477 : MethodName := ⟨"ToolMill$Unit", "wordAt", "(II)I"⟩
def zy_478 : MethodName := ⟨"ToolMill$Assembler", "hasDot", "(J)Z"⟩
def zy_479 : MethodName := ⟨"ToolMill$Lines", "parameter", "(IJJ)Z"⟩
def zy_480 : MethodName := ⟨"ToolMill$Lines", "keep", "(Z)I"⟩
def zy_481 : MethodName := ⟨"ToolMill$Unit", "addWant", "(JJII)Z"⟩
def zy_482 : MethodName := ⟨"ToolMill$Assembler", "rowPart", "(I)V"⟩
def zy_483 : MethodName := ⟨"ToolMill$Assembler", "behindBlanks", "(II)I"⟩
def zy_484 : MethodName := ⟨"ToolMill$Assembler", "aheadOfBlanks", "(II)I"⟩
def zy_485 : MethodName := ⟨"java/lang/String", "indexOf", "(II)I"⟩
def zy_486 : MethodName := ⟨"ToolMill$Reader", "named", "()V"⟩
def zy_487 : MethodName := ⟨"ToolMill$Reader", "choice", "()V"⟩
def zy_488 : MethodName := ⟨"ToolMill$Reader", "loop", "()V"⟩
def zy_489 : MethodName := ⟨"ToolMill$Reader", "expression", "(I)V"⟩
def zy_490 : MethodName := ⟨"ToolMill$Reader", "condition", "()Z"⟩
def zy_491 : MethodName := ⟨"ToolMill$Machine", "widthOf", "(I)I"⟩
def zy_492 : MethodName := ⟨"java/lang/AbstractStringBuilder", "newCapacity", "(I)I"⟩
def zy_493 : MethodName := ⟨"java/util/Arrays", "copyOf", "([BI)[B"⟩
def zy_494 : MethodName := ⟨"java/util/Arrays", "fill", "([BIIB)V"⟩
def zy_495 : MethodName := ⟨"java/lang/StringUTF16", "putCharsAt", "([BICCCC)I"⟩
def zy_496 : MethodName := ⟨"java/lang/AbstractStringBuilder", "inflateIfNeededFor", "(Ljava/lang/String;)V"⟩
def zy_497 : MethodName := ⟨"java/lang/String", "getBytes", "([BIB)V"⟩
def zy_498 : MethodName := ⟨"java/lang/StringUTF16", "checkBoundsBeginEnd", "(II[B)V"⟩
def zy_499 : MethodName := ⟨"java/lang/StringUTF16", "getChars", "(II[B)I"⟩
def zy_500 : MethodName := ⟨"java/lang/StringLatin1", "inflate", "([BI[BII)V"⟩
def zy_501 : MethodName := ⟨"java/lang/StringUTF16", "putChar", "([BII)V"⟩
def zy_502 : MethodName := ⟨"ToolMillModel", "use", "(III)I"⟩
def zy_503 : MethodName := ⟨"ToolMillModel", "offsetOf", "(I)I"⟩
def zy_504 : MethodName := ⟨"ToolMillModel", "sizeOf", "(I)I"⟩
def zy_505 : MethodName := ⟨"ToolMillModel", "arguments", "(IIIZ)Z"⟩
def zy_506 : MethodName := ⟨"ToolMillModel", "expressions", "()V"⟩
def zy_507 : MethodName := ⟨"ToolMillModel", "context", "(IIII)V"⟩
def zy_508 : MethodName := ⟨"ToolMillModel", "macroOf", "(I)I"⟩
def zy_509 : MethodName := ⟨"ToolMillModel", "callMacro", "(I)V"⟩
def zy_510 : MethodName := ⟨"ToolMillModel", "instruction", "(I)V"⟩
def zy_511 : MethodName := ⟨"ToolMillModel", "directive", "(I)V"⟩
def zy_512 : MethodName := ⟨"ToolMillModel", "constantOf", "(I)I"⟩
def zy_513 : MethodName := ⟨"ToolMillModel", "sizeHere", "()I"⟩
def zy_514 : MethodName := ⟨"ToolMill$Codes", "setBy", "(II)I"⟩
def zy_515 : MethodName := ⟨"ToolMill$Codes", "reads", "(III)Z"⟩
def zy_516 : MethodName := ⟨"ToolMill$Codes", "linksBack", "(I)Z"⟩
def zy_517 : MethodName := ⟨"ToolMill$Scanner", "labelDigit", "()I"⟩
def zy_518 : MethodName := ⟨"ToolMill$Scanner", "labelKind", "()I"⟩
def zy_519 : MethodName := ⟨"ToolMill$Unit", "addUse", "(IIIII)I"⟩
def zy_520 : MethodName := ⟨"ToolMill$Scanner", "labelFirst", "()J"⟩
def zy_521 : MethodName := ⟨"ToolMill$Scanner", "labelSecond", "()J"⟩
def zy_522 : MethodName := ⟨"java/lang/StringLatin1", "indexOf", "([BIII)I"⟩
def zy_523 : MethodName := ⟨"java/lang/StringUTF16", "indexOf", "([BIII)I"⟩
def zy_524 : MethodName := ⟨"ToolMill$Reader", "addUse", "()I"⟩
def zy_525 : MethodName := ⟨"ToolMill$Reader", "call", "(II)V"⟩
def zy_526 : MethodName := ⟨"ToolMill$Reader", "index", "(II)V"⟩
def zy_527 : MethodName := ⟨"ToolMill$Reader", "takeLabel", "()I"⟩
def zy_528 : MethodName := ⟨"ToolMill$Reader", "setLabel", "(I)V"⟩
def zy_529 : MethodName := ⟨"ToolMill$Reader", "sum", "(I)V"⟩
def zy_530 : MethodName := ⟨"ToolMill$Reader", "itemOf", "(I)I"⟩
def zy_531 : MethodName := ⟨"jdk/internal/util/ArraysSupport", "newLength", "(III)I"⟩
def zy_532 : MethodName := ⟨"java/lang/String", "checkBoundsBeginEnd", "(III)V"⟩
def zy_533 : MethodName := ⟨"java/lang/StringUTF16", "inflate", "([BI[BII)V"⟩
def zy_534 : MethodName := ⟨"ToolMillModel", "calls", "(IIIIZ)V"⟩
def zy_535 : MethodName := ⟨"ToolMillModel", "factor", "()Z"⟩
def zy_536 : MethodName := ⟨"ToolMillModel", "goesOn", "()Z"⟩
def zy_537 : MethodName := ⟨"ToolMillModel", "closes", "()I"⟩
def zy_538 : MethodName := ⟨"ToolMillModel", "expect", "(I)V"⟩
def zy_539 : MethodName := ⟨"ToolMillModel", "readOperands", "(I)V"⟩
def zy_540 : MethodName := ⟨"ToolMillModel", "lineEnds", "()V"⟩
def zy_541 : MethodName := ⟨"ToolMillModel", "isNumberRight", "(I)Z"⟩
def zy_542 : MethodName := ⟨"ToolMillModel", "areReferencesThere", "()Z"⟩
def zy_543 : MethodName := ⟨"ToolMillModel", "comeRow", "(I)V"⟩
def zy_544 : MethodName := ⟨"ToolMillModel", "comeHalf", "(I)V"⟩
def zy_545 : MethodName := ⟨"ToolMillModel", "comeOther", "(I)V"⟩
def zy_546 : MethodName := ⟨"ToolMillModel", "toSection", "(Z)V"⟩
def zy_547 : MethodName := ⟨"ToolMillModel", "tellName", "(I)V"⟩
def zy_548 : MethodName := ⟨"ToolMillModel", "numbers", "(I)V"⟩
def zy_549 : MethodName := ⟨"ToolMillModel", "spaces", "(I)V"⟩
def zy_550 : MethodName := ⟨"ToolMillModel", "control", "(I)V"⟩
def zy_551 : MethodName := ⟨"java/lang/StringLatin1", "canEncode", "(I)Z"⟩
def zy_552 : MethodName := ⟨"java/lang/StringLatin1", "indexOfChar", "([BIII)I"⟩
def zy_553 : MethodName := ⟨"java/lang/StringUTF16", "indexOfChar", "([BIII)I"⟩
def zy_554 : MethodName := ⟨"java/lang/StringUTF16", "indexOfSupplementary", "([BIII)I"⟩
def zy_555 : MethodName := ⟨"ToolMill$Reader", "product", "(I)V"⟩
def zy_556 : MethodName := ⟨"jdk/internal/util/ArraysSupport", "hugeLength", "(II)I"⟩
def zy_557 : MethodName := ⟨"jdk/internal/util/Preconditions", "checkFromToIndex", "(IIILjava/util/function/BiFunction;)I"⟩
def zy_558 : MethodName := ⟨"java/lang/StringUTF16", "checkBoundsOffCount", "(II[B)V"⟩
def zy_559 : MethodName := ⟨"ToolMillModel", "factorDepth", "()I"⟩
def zy_560 : MethodName := ⟨"ToolMillModel", "isProduct", "(I)Z"⟩
def zy_561 : MethodName := ⟨"ToolMillModel", "isSum", "(I)Z"⟩
def zy_562 : MethodName := ⟨"ToolMillModel", "isCompare", "(I)Z"⟩
def zy_563 : MethodName := ⟨"ToolMillModel", "readRegister", "()I"⟩
def zy_564 : MethodName := ⟨"ToolMillModel", "sign", "(I)V"⟩
def zy_565 : MethodName := ⟨"ToolMillModel", "oneValue", "(I)V"⟩
def zy_566 : MethodName := ⟨"ToolMillModel", "halfOf", "(I)Z"⟩
def zy_567 : MethodName := ⟨"ToolMillModel", "readMemory", "()V"⟩
def zy_568 : MethodName := ⟨"ToolMillModel", "readBranch", "(I)V"⟩
def zy_569 : MethodName := ⟨"ToolMillModel", "wordOf", "(IIIII)I"⟩
def zy_570 : MethodName := ⟨"ToolMillModel", "bit", "(I)I"⟩
def zy_571 : MethodName := ⟨"ToolMillModel", "comeBranch", "(IIZII)V"⟩
def zy_572 : MethodName := ⟨"ToolMillModel", "come", "(IIIZ)V"⟩
def zy_573 : MethodName := ⟨"ToolMillModel", "addUse", "(III)V"⟩
def zy_574 : MethodName := ⟨"ToolMillModel", "halfWord", "(IIII)I"⟩
def zy_575 : MethodName := ⟨"ToolMillModel", "halfNumber", "(I)I"⟩
def zy_576 : MethodName := ⟨"ToolMillModel", "comeLi", "()V"⟩
def zy_577 : MethodName := ⟨"ToolMillModel", "comeSet", "(II)V"⟩
def zy_578 : MethodName := ⟨"ToolMillModel", "setConstant", "(I)V"⟩
def zy_579 : MethodName := ⟨"ToolMillModel", "mark", "(I)Z"⟩
def zy_580 : MethodName := ⟨"ToolMillModel", "nothingMoves", "()V"⟩
def zy_581 : MethodName := ⟨"ToolMillModel", "appendByte", "(I)V"⟩
def zy_582 : MethodName := ⟨"ToolMillModel", "ifSame", "()V"⟩
def zy_583 : MethodName := ⟨"ToolMillModel", "defineMacro", "()V"⟩
def zy_584 : MethodName := ⟨"ToolMillModel", "repeat", "()V"⟩
def zy_585 : MethodName := ⟨"java/lang/StringUTF16", "indexOfCharUnsafe", "([BIII)I"⟩
def zy_586 : MethodName := ⟨"java/lang/Character", "isValidCodePoint", "(I)Z"⟩
def zy_587 : MethodName := ⟨"java/lang/Character", "highSurrogate", "(I)C"⟩
def zy_588 : MethodName := ⟨"java/lang/Character", "lowSurrogate", "(I)C"⟩
def zy_589 : MethodName := ⟨"ToolMill$Reader", "factor", "(I)V"⟩
def zy_590 : MethodName := ⟨"java/lang/String", "checkBoundsOffCount", "(III)I"⟩
def zy_591 : MethodName := ⟨"ToolMillModel", "readValue", "()V"⟩
def zy_592 : MethodName := ⟨"ToolMillModel", "keepValue", "(I)V"⟩
def zy_593 : MethodName := ⟨"ToolMillModel", "appendWord", "(I)V"⟩
def zy_594 : MethodName := ⟨"ToolMill$Reader", "nameFactor", "(I)V"⟩
def zy_595 : MethodName := ⟨"jdk/internal/util/Preconditions", "checkFromIndexSize", "(IIILjava/util/function/BiFunction;)I"⟩
def zy_596 : MethodName := ⟨"ToolMillModel", "numberTerm", "(Z)V"⟩
def zy_597 : MethodName := ⟨"ToolMillModel", "takeLabelOf", "(IIZ)V"⟩
def zMs : List (List (MethodName × ByteArray × Nat × Option FieldType)) := [[(zy_0, prog_1_method_1_code, 4, none), (zy_1, prog_1_method_2_code, 5, (some .int)), (zy_2, prog_1_method_3_code, 2, none), (zy_3, prog_1_method_4_code, 5, (some .int)), (zy_4, prog_1_method_5_code, 2, (some .int)), (zy_5, prog_1_method_6_code, 1, none), (zy_6, prog_1_method_7_code, 2, (some .int)), (zy_7, prog_1_method_8_code, 4, (some .int)), (zy_8, prog_1_method_9_code, 4, (some .int)), (zy_9, prog_1_method_10_code, 6, (some .int)), (zy_10, prog_1_method_11_code, 7, (some .int)), (zy_11, prog_1_method_12_code, 6, (some .int)), (zy_12, prog_1_method_13_code, 6, (some .int)), (zy_13, prog_1_method_14_code, 2, (some .int)), (zy_14, prog_1_method_15_code, 3, (some .int)), (zy_15, prog_1_method_16_code, 2, (some .int))],
  [(zy_16, prog_1_method_17_code, 2, (some .int)), (zy_17, prog_1_method_18_code, 2, (some .int)), (zy_18, prog_1_method_19_code, 2, (some .int)), (zy_19, prog_1_method_20_code, 2, (some .int)), (zy_20, prog_1_method_21_code, 3, (some .int)), (zy_21, prog_1_method_22_code, 2, (some .int)), (zy_22, prog_1_method_23_code, 2, (some .int)), (zy_23, prog_1_method_24_code, 2, (some .int)), (zy_24, prog_14_method_1_code, 1, none), (zy_25, prog_14_method_5_code, 6, (some .int)), (zy_26, prog_14_method_6_code, 2, none), (zy_27, prog_14_method_93_code, 5, (some .int)), (zy_28, prog_14_method_179_code, 2, (some .int)), (zy_29, prog_14_method_180_code, 1, none), (zy_30, prog_14_method_181_code, 2, (some .int)), (zy_31, prog_14_method_94_code, 3, (some .int))],
  [(zy_32, prog_14_method_184_code, 6, (some .int)), (zy_33, prog_14_method_185_code, 6, (some .int)), (zy_34, prog_14_method_186_code, 6, (some .int)), (zy_35, prog_14_method_187_code, 6, (some .int)), (zy_36, prog_14_method_188_code, 6, (some .int)), (zy_37, prog_14_method_207_code, 2, (some .int)), (zy_38, prog_14_method_205_code, 5, (some .int)), (zy_39, prog_14_method_225_code, 4, (some .int)), (zy_40, prog_14_method_226_code, 2, (some .int)), (zy_41, prog_14_method_227_code, 2, (some .int)), (zy_42, prog_14_method_228_code, 2, (some .int)), (zy_43, prog_14_method_229_code, 2, (some .int)), (zy_44, prog_14_method_235_code, 4, (some .int)), (zy_45, prog_14_method_250_code, 6, (some .int)), (zy_46, prog_14_method_251_code, 2, (some .int)), (zy_47, prog_14_method_252_code, 2, (some .int))],
  [(zy_48, prog_14_method_2_code, 1, (some .int)), (zy_49, prog_9_method_1_code, 1, none), (zy_50, prog_3_method_1_code, 4, none), (zy_51, prog_10_method_1_code, 2, none), (zy_52, prog_2_method_1_code, 2, none), (zy_53, prog_7_method_1_code, 2, none), (zy_54, prog_6_method_1_code, 3, none), (zy_55, prog_8_method_1_code, 2, none), (zy_56, prog_4_method_1_code, 1, none), (zy_57, prog_12_method_1_code, 7, none), (zy_58, prog_26_method_54_code, 1, (some .int)), (zy_59, prog_26_method_56_code, 2, (some .char)), (zy_60, prog_2_method_2_code, 5, (some .boolean)), (zy_61, prog_1_method_25_code, 1, (some (.object "ToolMill$Unit"))), (zy_62, prog_10_method_2_code, 5, none), (zy_63, prog_4_method_4_code, 5, none)],
  [(zy_64, prog_1_method_26_code, 3, (some .int)), (zy_65, prog_1_method_27_code, 2, (some (.object "ToolMill$Unit"))), (zy_66, prog_9_method_7_code, 4, (some .int)), (zy_67, prog_6_method_2_code, 5, (some .boolean)), (zy_68, prog_7_method_8_code, 5, (some .int)), (zy_69, prog_1_method_28_code, 1, none), (zy_70, prog_7_method_3_code, 2, (some .boolean)), (zy_71, prog_7_method_4_code, 2, (some .int)), (zy_72, prog_3_method_8_code, 4, (some .int)), (zy_73, prog_8_method_2_code, 4, (some .boolean)), (zy_74, prog_8_method_6_code, 6, none), (zy_75, prog_1_method_29_code, 1, none), (zy_76, prog_14_method_96_code, 1, none), (zy_77, prog_14_method_182_code, 3, none), (zy_78, prog_14_method_4_code, 3, (some .boolean)), (zy_79, prog_14_method_3_code, 3, (some .boolean))],
  [(zy_80, prog_14_method_11_code, 4, none), (zy_81, prog_14_method_19_code, 7, none), (zy_82, prog_14_method_53_code, 4, none), (zy_83, prog_14_method_56_code, 6, none), (zy_84, prog_14_method_92_code, 5, none), (zy_85, prog_14_method_175_code, 3, (some .boolean)), (zy_86, prog_14_method_189_code, 1, none), (zy_87, prog_14_method_183_code, 2, (some .boolean)), (zy_88, prog_14_method_8_code, 4, (some .int)), (zy_89, prog_14_method_191_code, 5, none), (zy_90, prog_14_method_196_code, 5, none), (zy_91, prog_14_method_198_code, 7, none), (zy_92, prog_14_method_199_code, 5, none), (zy_93, prog_14_method_200_code, 6, none), (zy_94, prog_14_method_201_code, 8, (some .int)), (zy_95, prog_14_method_195_code, 4, none)],
  [(zy_96, prog_14_method_204_code, 6, none), (zy_97, prog_14_method_206_code, 2, none), (zy_98, prog_14_method_224_code, 4, (some .boolean)), (zy_99, prog_14_method_208_code, 3, (some .boolean)), (zy_100, prog_14_method_210_code, 2, (some .int)), (zy_101, prog_14_method_212_code, 10, (some .int)), (zy_102, prog_14_method_231_code, 3, none), (zy_103, prog_14_method_230_code, 2, none), (zy_104, prog_14_method_232_code, 6, none), (zy_105, prog_14_method_234_code, 7, none), (zy_106, prog_14_method_237_code, 7, (some .boolean)), (zy_107, prog_14_method_238_code, 6, none), (zy_108, prog_14_method_7_code, 9, (some .int)), (zy_109, prog_14_method_236_code, 5, (some .int)), (zy_110, prog_14_method_242_code, 7, none), (zy_111, prog_14_method_249_code, 2, none)],
  [(zy_112, prog_9_method_2_code, 8, none), (zy_113, prog_27_method_1_code, 1, none), (zy_114, prog_34_method_103_code, 4, none), (zy_115, prog_5_method_1_code, 2, none), (zy_116, prog_11_method_1_code, 2, none), (zy_117, prog_26_method_152_code, 1, (some .byte)), (zy_118, prog_26_method_154_code, 1, (some .boolean)), (zy_119, prog_29_method_2_code, 2, (some .char)), (zy_120, prog_30_method_83_code, 2, (some .char)), (zy_121, prog_9_method_3_code, 2, none), (zy_122, prog_5_method_2_code, 3, none), (zy_123, prog_12_method_2_code, 1, none), (zy_124, prog_2_method_3_code, 4, (some .long)), (zy_125, prog_2_method_21_code, 7, none), (zy_126, prog_5_method_4_code, 3, (some .boolean)), (zy_127, prog_2_method_4_code, 5, (some .int))],
  [(zy_128, prog_2_method_36_code, 6, none), (zy_129, prog_4_method_2_code, 1, none), (zy_130, prog_10_method_4_code, 6, none), (zy_131, prog_10_method_9_code, 1, (some .int)), (zy_132, prog_10_method_12_code, 1, none), (zy_133, prog_10_method_19_code, 6, none), (zy_134, prog_10_method_25_code, 1, none), (zy_135, prog_10_method_13_code, 1, none), (zy_136, prog_10_method_3_code, 2, none), (zy_137, prog_4_method_8_code, 6, none), (zy_138, prog_4_method_11_code, 6, (some .int)), (zy_139, prog_4_method_15_code, 3, none), (zy_140, prog_4_method_17_code, 2, none), (zy_141, prog_4_method_16_code, 3, none), (zy_142, prog_4_method_5_code, 6, none), (zy_143, prog_6_method_5_code, 5, none)],
  [(zy_144, prog_6_method_8_code, 5, none), (zy_145, prog_6_method_11_code, 3, none), (zy_146, prog_6_method_12_code, 7, none), (zy_147, prog_6_method_13_code, 2, none), (zy_148, prog_6_method_4_code, 4, none), (zy_149, prog_6_method_16_code, 5, none), (zy_150, prog_6_method_17_code, 11, none), (zy_151, prog_7_method_10_code, 3, (some .boolean)), (zy_152, prog_27_method_89_code, 2, none), (zy_153, prog_3_method_2_code, 4, (some .int)), (zy_154, prog_27_method_7_code, 2, (some (.object "java/lang/StringBuilder"))), (zy_155, prog_27_method_15_code, 2, (some (.object "java/lang/StringBuilder"))), (zy_156, prog_3_method_14_code, 3, none), (zy_157, prog_3_method_9_code, 4, none), (zy_158, prog_27_method_14_code, 2, (some (.object "java/lang/StringBuilder"))), (zy_159, prog_27_method_93_code, 1, (some .int))],
  [(zy_160, prog_27_method_88_code, 2, (some .char)), (zy_161, prog_8_method_4_code, 6, (some .boolean)), (zy_162, prog_8_method_5_code, 6, (some .boolean)), (zy_163, prog_9_method_4_code, 8, (some .int)), (zy_164, prog_8_method_3_code, 3, (some .int)), (zy_165, prog_34_method_104_code, 5, none), (zy_166, prog_8_method_8_code, 9, none), (zy_167, prog_8_method_7_code, 3, none), (zy_168, prog_8_method_10_code, 7, none), (zy_169, prog_14_method_95_code, 6, none), (zy_170, prog_14_method_97_code, 1, none), (zy_171, prog_14_method_148_code, 4, (some .int)), (zy_172, prog_14_method_9_code, 2, none), (zy_173, prog_14_method_10_code, 1, (some .boolean)), (zy_174, prog_14_method_13_code, 3, none), (zy_175, prog_14_method_14_code, 1, (some .boolean))],
  [(zy_176, prog_14_method_15_code, 1, (some .boolean)), (zy_177, prog_14_method_18_code, 4, none), (zy_178, prog_14_method_16_code, 2, (some .int)), (zy_179, prog_14_method_17_code, 1, (some .boolean)), (zy_180, prog_14_method_22_code, 2, (some .boolean)), (zy_181, prog_14_method_23_code, 2, none), (zy_182, prog_14_method_44_code, 2, (some .int)), (zy_183, prog_14_method_51_code, 6, none), (zy_184, prog_14_method_52_code, 7, none), (zy_185, prog_14_method_21_code, 1, none), (zy_186, prog_14_method_54_code, 4, (some .int)), (zy_187, prog_14_method_55_code, 4, (some .int)), (zy_188, prog_14_method_20_code, 3, none), (zy_189, prog_14_method_72_code, 4, none), (zy_190, prog_14_method_73_code, 3, none), (zy_191, prog_14_method_57_code, 2, none)],
  [(zy_192, prog_14_method_62_code, 3, none), (zy_193, prog_14_method_61_code, 1, none), (zy_194, prog_14_method_60_code, 6, none), (zy_195, prog_14_method_91_code, 5, none), (zy_196, prog_14_method_59_code, 3, none), (zy_197, prog_14_method_63_code, 1, none), (zy_198, prog_14_method_174_code, 3, none), (zy_199, prog_14_method_101_code, 4, none), (zy_200, prog_14_method_166_code, 6, none), (zy_201, prog_14_method_173_code, 3, none), (zy_202, prog_14_method_176_code, 3, none), (zy_203, prog_14_method_178_code, 4, none), (zy_204, prog_14_method_190_code, 2, (some .int)), (zy_205, prog_14_method_192_code, 2, (some .int)), (zy_206, prog_14_method_197_code, 2, (some .boolean)), (zy_207, prog_14_method_193_code, 3, (some .int))],
  [(zy_208, prog_14_method_203_code, 7, (some .boolean)), (zy_209, prog_14_method_213_code, 3, none), (zy_210, prog_14_method_222_code, 1, none), (zy_211, prog_14_method_211_code, 3, (some .int)), (zy_212, prog_14_method_223_code, 7, (some .int)), (zy_213, prog_14_method_216_code, 8, none), (zy_214, prog_14_method_221_code, 7, none), (zy_215, prog_14_method_219_code, 7, none), (zy_216, prog_14_method_209_code, 2, (some .int)), (zy_217, prog_14_method_233_code, 3, none), (zy_218, prog_14_method_239_code, 3, none), (zy_219, prog_14_method_240_code, 2, (some .int)), (zy_220, prog_14_method_244_code, 1, (some .boolean)), (zy_221, prog_14_method_243_code, 2, none), (zy_222, prog_14_method_248_code, 7, none), (zy_223, prog_9_method_5_code, 8, (some .int))],
  [(zy_224, prog_15_method_2_code, 2, none), (zy_225, prog_26_method_155_code, 2, none), (zy_226, prog_30_method_91_code, 2, none), (zy_227, prog_30_method_5_code, 2, (some .char)), (zy_228, prog_5_method_3_code, 6, none), (zy_229, prog_12_method_3_code, 6, (some .int)), (zy_230, prog_11_method_15_code, 2, none), (zy_231, prog_12_method_4_code, 7, (some .boolean)), (zy_232, prog_5_method_5_code, 3, (some .boolean)), (zy_233, prog_5_method_7_code, 1, (some .boolean)), (zy_234, prog_5_method_8_code, 2, (some .int)), (zy_235, prog_5_method_21_code, 4, (some .int)), (zy_236, prog_11_method_2_code, 5, none), (zy_237, prog_11_method_8_code, 1, (some .boolean)), (zy_238, prog_2_method_5_code, 2, none), (zy_239, prog_11_method_14_code, 1, none)],
  [(zy_240, prog_11_method_7_code, 1, (some .int)), (zy_241, prog_11_method_11_code, 1, (some .long)), (zy_242, prog_11_method_12_code, 1, (some .long)), (zy_243, prog_5_method_12_code, 6, (some .int)), (zy_244, prog_11_method_10_code, 1, (some .int)), (zy_245, prog_11_method_13_code, 1, (some .int)), (zy_246, prog_5_method_17_code, 10, (some .int)), (zy_247, prog_2_method_8_code, 5, none), (zy_248, prog_2_method_33_code, 6, none), (zy_249, prog_2_method_19_code, 3, none), (zy_250, prog_2_method_29_code, 3, none), (zy_251, prog_2_method_37_code, 5, none), (zy_252, prog_2_method_38_code, 4, (some .boolean)), (zy_253, prog_10_method_5_code, 5, (some .int)), (zy_254, prog_1_method_30_code, 1, (some .boolean)), (zy_255, prog_10_method_6_code, 7, (some .int))],
  [(zy_256, prog_1_method_31_code, 1, (some .boolean)), (zy_257, prog_10_method_7_code, 8, (some .int)), (zy_258, prog_10_method_8_code, 2, (some .int)), (zy_259, prog_10_method_11_code, 1, (some .int)), (zy_260, prog_10_method_10_code, 1, (some .int)), (zy_261, prog_10_method_20_code, 2, (some .int)), (zy_262, prog_10_method_14_code, 2, none), (zy_263, prog_10_method_22_code, 6, none), (zy_264, prog_10_method_21_code, 7, (some .int)), (zy_265, prog_4_method_3_code, 4, none), (zy_266, prog_10_method_15_code, 2, (some .boolean)), (zy_267, prog_10_method_26_code, 2, none), (zy_268, prog_10_method_16_code, 2, none), (zy_269, prog_10_method_27_code, 3, none), (zy_270, prog_10_method_24_code, 2, none), (zy_271, prog_10_method_44_code, 6, (some .int))],
  [(zy_272, prog_4_method_10_code, 6, none), (zy_273, prog_4_method_9_code, 3, (some .int)), (zy_274, prog_4_method_12_code, 4, none), (zy_275, prog_4_method_14_code, 4, none), (zy_276, prog_4_method_13_code, 2, none), (zy_277, prog_4_method_7_code, 2, none), (zy_278, prog_4_method_6_code, 3, none), (zy_279, prog_6_method_3_code, 2, (some .boolean)), (zy_280, prog_6_method_9_code, 4, none), (zy_281, prog_6_method_6_code, 8, (some .boolean)), (zy_282, prog_6_method_10_code, 4, (some .boolean)), (zy_283, prog_6_method_14_code, 9, (some .int)), (zy_284, prog_6_method_7_code, 1, (some .int)), (zy_285, prog_6_method_15_code, 5, (some .int)), (zy_286, prog_3_method_5_code, 1, (some .boolean)), (zy_287, prog_7_method_2_code, 6, none)],
  [(zy_288, prog_7_method_6_code, 3, none), (zy_289, prog_6_method_18_code, 5, none), (zy_290, prog_7_method_9_code, 3, (some .boolean)), (zy_291, prog_7_method_11_code, 5, (some .boolean)), (zy_292, prog_15_method_13_code, 2, none), (zy_293, prog_15_method_22_code, 3, (some (.object "java/lang/AbstractStringBuilder"))), (zy_294, prog_15_method_32_code, 4, (some (.object "java/lang/AbstractStringBuilder"))), (zy_295, prog_3_method_10_code, 5, none), (zy_296, prog_3_method_11_code, 4, none), (zy_297, prog_3_method_13_code, 3, none), (zy_298, prog_3_method_12_code, 4, none), (zy_299, prog_15_method_31_code, 2, (some (.object "java/lang/AbstractStringBuilder"))), (zy_300, prog_15_method_6_code, 1, (some .int)), (zy_301, prog_15_method_14_code, 5, (some .char)), (zy_302, prog_34_method_30_code, 3, none), (zy_303, prog_24_method_69_code, 2, (some .int))],
  [(zy_304, prog_24_method_65_code, 2, (some .int)), (zy_305, prog_8_method_17_code, 4, (some .int)), (zy_306, prog_8_method_9_code, 3, none), (zy_307, prog_8_method_11_code, 1, none), (zy_308, prog_8_method_12_code, 1, (some .int)), (zy_309, prog_8_method_13_code, 2, none), (zy_310, prog_8_method_14_code, 8, none), (zy_311, prog_14_method_12_code, 2, (some .int)), (zy_312, prog_14_method_29_code, 1, none), (zy_313, prog_14_method_25_code, 4, (some .int)), (zy_314, prog_14_method_45_code, 3, none), (zy_315, prog_14_method_24_code, 7, none), (zy_316, prog_14_method_43_code, 2, none), (zy_317, prog_14_method_49_code, 1, (some .boolean)), (zy_318, prog_14_method_50_code, 2, none), (zy_319, prog_14_method_58_code, 5, none)],
  [(zy_320, prog_14_method_75_code, 6, none), (zy_321, prog_14_method_76_code, 2, none), (zy_322, prog_14_method_65_code, 2, none), (zy_323, prog_14_method_89_code, 2, none), (zy_324, prog_14_method_77_code, 5, none), (zy_325, prog_14_method_78_code, 5, none), (zy_326, prog_14_method_79_code, 7, none), (zy_327, prog_14_method_80_code, 7, none), (zy_328, prog_14_method_81_code, 3, none), (zy_329, prog_14_method_86_code, 3, none), (zy_330, prog_14_method_64_code, 3, none), (zy_331, prog_14_method_87_code, 3, none), (zy_332, prog_14_method_90_code, 1, none), (zy_333, prog_14_method_88_code, 3, none), (zy_334, prog_14_method_149_code, 4, none), (zy_335, prog_14_method_98_code, 2, (some .int))],
  [(zy_336, prog_14_method_169_code, 2, none), (zy_337, prog_14_method_164_code, 2, none), (zy_338, prog_14_method_104_code, 9, (some .int)), (zy_339, prog_14_method_170_code, 2, none), (zy_340, prog_14_method_107_code, 6, none), (zy_341, prog_14_method_172_code, 3, none), (zy_342, prog_14_method_177_code, 7, none), (zy_343, prog_14_method_151_code, 4, (some .int)), (zy_344, prog_14_method_152_code, 4, (some .boolean)), (zy_345, prog_14_method_194_code, 2, (some .int)), (zy_346, prog_14_method_202_code, 3, none), (zy_347, prog_14_method_214_code, 3, none), (zy_348, prog_14_method_215_code, 3, (some .boolean)), (zy_349, prog_14_method_220_code, 5, none), (zy_350, prog_14_method_241_code, 3, none), (zy_351, prog_14_method_247_code, 3, none)],
  [(zy_352, prog_14_method_246_code, 2, (some .int)), (zy_353, prog_14_method_245_code, 4, (some .int)), (zy_354, prog_30_method_2_code, 1, (some (.array .byte))), (zy_355, prog_37_method_11_code, 3, (some .int)), (zy_356, prog_30_method_6_code, 1, (some .int)), (zy_357, prog_5_method_6_code, 3, (some .int)), (zy_358, prog_5_method_9_code, 2, (some .int)), (zy_359, prog_5_method_10_code, 2, (some .int)), (zy_360, prog_5_method_11_code, 1, (some .int)), (zy_361, prog_5_method_22_code, 2, none), (zy_362, prog_5_method_23_code, 3, none), (zy_363, prog_1_method_32_code, 1, (some .boolean)), (zy_364, prog_5_method_24_code, 12, (some .boolean)), (zy_365, prog_11_method_3_code, 8, (some .int)), (zy_366, prog_12_method_8_code, 2, (some .int)), (zy_367, prog_2_method_6_code, 2, none)],
  [(zy_368, prog_11_method_9_code, 1, (some .boolean)), (zy_369, prog_2_method_7_code, 5, none), (zy_370, prog_5_method_18_code, 2, (some .int)), (zy_371, prog_5_method_20_code, 8, none), (zy_372, prog_5_method_19_code, 4, (some .boolean)), (zy_373, prog_2_method_12_code, 3, (some .int)), (zy_374, prog_2_method_13_code, 3, (some .int)), (zy_375, prog_2_method_9_code, 4, (some .int)), (zy_376, prog_11_method_17_code, 1, none), (zy_377, prog_2_method_16_code, 10, none), (zy_378, prog_2_method_15_code, 3, none), (zy_379, prog_2_method_14_code, 4, none), (zy_380, prog_11_method_16_code, 2, none), (zy_381, prog_2_method_34_code, 4, (some .int)), (zy_382, prog_5_method_14_code, 10, (some .int)), (zy_383, prog_2_method_20_code, 6, none)],
  [(zy_384, prog_2_method_22_code, 9, none), (zy_385, prog_2_method_23_code, 6, none), (zy_386, prog_2_method_24_code, 5, none), (zy_387, prog_11_method_21_code, 3, (some .int)), (zy_388, prog_2_method_26_code, 2, none), (zy_389, prog_2_method_27_code, 3, none), (zy_390, prog_2_method_28_code, 7, none), (zy_391, prog_2_method_30_code, 11, none), (zy_392, prog_5_method_15_code, 5, (some .int)), (zy_393, prog_12_method_10_code, 7, none), (zy_394, prog_9_method_6_code, 6, (some .long)), (zy_395, prog_26_method_79_code, 2, (some .int)), (zy_396, prog_10_method_18_code, 2, none), (zy_397, prog_10_method_23_code, 6, none), (zy_398, prog_10_method_17_code, 2, none), (zy_399, prog_10_method_28_code, 2, none)],
  [(zy_400, prog_10_method_45_code, 4, none), (zy_401, prog_7_method_7_code, 5, none), (zy_402, prog_7_method_5_code, 3, none), (zy_403, prog_7_method_14_code, 3, (some .int)), (zy_404, prog_7_method_12_code, 3, none), (zy_405, prog_7_method_13_code, 3, (some .int)), (zy_406, prog_7_method_16_code, 11, none), (zy_407, prog_7_method_17_code, 3, none), (zy_408, prog_7_method_18_code, 3, (some .boolean)), (zy_409, prog_7_method_15_code, 4, (some .int)), (zy_410, prog_7_method_19_code, 8, (some .boolean)), (zy_411, prog_7_method_21_code, 6, none), (zy_412, prog_15_method_9_code, 3, none), (zy_413, prog_15_method_68_code, 1, (some .boolean)), (zy_414, prog_29_method_48_code, 3, none), (zy_415, prog_30_method_70_code, 3, none)],
  [(zy_416, prog_15_method_26_code, 3, (some (.object "java/lang/AbstractStringBuilder"))), (zy_417, prog_15_method_73_code, 3, none), (zy_418, prog_23_method_13_code, 4, (some .int)), (zy_419, prog_23_method_12_code, 7, (some .int)), (zy_420, prog_30_method_77_code, 5, (some .int)), (zy_421, prog_29_method_3_code, 1, (some .boolean)), (zy_422, prog_15_method_11_code, 2, none), (zy_423, prog_30_method_71_code, 3, none), (zy_424, prog_8_method_15_code, 3, (some .int)), (zy_425, prog_8_method_16_code, 4, (some .int)), (zy_426, prog_14_method_46_code, 5, none), (zy_427, prog_14_method_47_code, 4, none), (zy_428, prog_14_method_48_code, 1, none), (zy_429, prog_14_method_42_code, 2, none), (zy_430, prog_14_method_69_code, 1, (some .int)), (zy_431, prog_14_method_74_code, 2, (some .int))],
  [(zy_432, prog_14_method_70_code, 2, none), (zy_433, prog_14_method_66_code, 2, none), (zy_434, prog_14_method_68_code, 2, none), (zy_435, prog_14_method_67_code, 2, none), (zy_436, prog_14_method_71_code, 6, none), (zy_437, prog_14_method_83_code, 5, none), (zy_438, prog_14_method_82_code, 4, none), (zy_439, prog_14_method_84_code, 3, none), (zy_440, prog_14_method_85_code, 3, none), (zy_441, prog_14_method_100_code, 3, none), (zy_442, prog_14_method_102_code, 1, (some .boolean)), (zy_443, prog_14_method_103_code, 1, (some .boolean)), (zy_444, prog_14_method_160_code, 3, none), (zy_445, prog_14_method_162_code, 2, none), (zy_446, prog_14_method_105_code, 2, none), (zy_447, prog_14_method_106_code, 3, none)],
  [(zy_448, prog_14_method_108_code, 13, (some .int)), (zy_449, prog_14_method_99_code, 2, none), (zy_450, prog_14_method_110_code, 1, none), (zy_451, prog_14_method_109_code, 1, (some .int)), (zy_452, prog_14_method_114_code, 7, (some .int)), (zy_453, prog_14_method_112_code, 2, (some .boolean)), (zy_454, prog_14_method_171_code, 5, none), (zy_455, prog_14_method_131_code, 3, none), (zy_456, prog_14_method_132_code, 3, none), (zy_457, prog_14_method_130_code, 4, (some .int)), (zy_458, prog_14_method_217_code, 10, none), (zy_459, prog_14_method_218_code, 8, none), (zy_460, prog_30_method_3_code, 1, (some .int)), (zy_461, prog_11_method_5_code, 10, (some .int)), (zy_462, prog_11_method_4_code, 3, (some .int)), (zy_463, prog_11_method_6_code, 5, (some .int))],
  [(zy_464, prog_12_method_5_code, 8, (some .boolean)), (zy_465, prog_11_method_18_code, 2, (some .int)), (zy_466, prog_11_method_24_code, 2, (some .int)), (zy_467, prog_11_method_20_code, 5, none), (zy_468, prog_11_method_19_code, 2, (some .int)), (zy_469, prog_11_method_22_code, 3, (some .int)), (zy_470, prog_2_method_11_code, 1, (some .int)), (zy_471, prog_11_method_23_code, 1, none), (zy_472, prog_2_method_10_code, 5, (some .int)), (zy_473, prog_3_method_3_code, 1, (some .boolean)), (zy_474, prog_2_method_17_code, 7, (some .boolean)), (zy_475, prog_2_method_18_code, 6, (some .int)), (zy_476, prog_12_method_9_code, 6, (some .boolean)), (zy_477, prog_12_method_11_code, 6, (some .int)), (zy_478, prog_2_method_35_code, 3, (some .boolean)), (zy_479, prog_5_method_13_code, 8, (some .boolean))],
  [(zy_480, prog_5_method_16_code, 7, (some .int)), (zy_481, prog_12_method_6_code, 8, (some .boolean)), (zy_482, prog_2_method_25_code, 3, none), (zy_483, prog_2_method_31_code, 4, (some .int)), (zy_484, prog_2_method_32_code, 4, (some .int)), (zy_485, prog_26_method_80_code, 3, (some .int)), (zy_486, prog_10_method_29_code, 2, none), (zy_487, prog_10_method_31_code, 3, none), (zy_488, prog_10_method_32_code, 3, none), (zy_489, prog_10_method_35_code, 3, none), (zy_490, prog_10_method_30_code, 1, (some .boolean)), (zy_491, prog_7_method_20_code, 1, (some .int)), (zy_492, prog_15_method_10_code, 6, (some .int)), (zy_493, prog_34_method_121_code, 3, (some (.array .byte))), (zy_494, prog_34_method_110_code, 5, none), (zy_495, prog_30_method_81_code, 7, (some .int))],
  [(zy_496, prog_15_method_71_code, 2, none), (zy_497, prog_26_method_147_code, 4, none), (zy_498, prog_30_method_93_code, 3, none), (zy_499, prog_30_method_89_code, 7, (some .int)), (zy_500, prog_29_method_50_code, 5, none), (zy_501, prog_30_method_4_code, 3, none), (zy_502, prog_14_method_26_code, 5, (some .int)), (zy_503, prog_14_method_27_code, 2, (some .int)), (zy_504, prog_14_method_28_code, 2, (some .int)), (zy_505, prog_14_method_35_code, 5, (some .boolean)), (zy_506, prog_14_method_41_code, 3, none), (zy_507, prog_14_method_30_code, 5, none), (zy_508, prog_14_method_163_code, 4, (some .int)), (zy_509, prog_14_method_168_code, 10, none), (zy_510, prog_14_method_140_code, 2, none), (zy_511, prog_14_method_158_code, 2, none)],
  [(zy_512, prog_14_method_116_code, 4, (some .int)), (zy_513, prog_14_method_123_code, 1, (some .int)), (zy_514, prog_3_method_6_code, 2, (some .int)), (zy_515, prog_3_method_7_code, 5, (some .boolean)), (zy_516, prog_3_method_4_code, 1, (some .boolean)), (zy_517, prog_11_method_28_code, 1, (some .int)), (zy_518, prog_11_method_25_code, 1, (some .int)), (zy_519, prog_12_method_7_code, 7, (some .int)), (zy_520, prog_11_method_26_code, 1, (some .long)), (zy_521, prog_11_method_27_code, 1, (some .long)), (zy_522, prog_29_method_22_code, 4, (some .int)), (zy_523, prog_30_method_40_code, 4, (some .int)), (zy_524, prog_10_method_43_code, 4, (some .int)), (zy_525, prog_10_method_42_code, 6, none), (zy_526, prog_10_method_41_code, 3, none), (zy_527, prog_10_method_33_code, 1, (some .int))],
  [(zy_528, prog_10_method_34_code, 2, none), (zy_529, prog_10_method_36_code, 4, none), (zy_530, prog_10_method_38_code, 1, (some .int)), (zy_531, prog_36_method_27_code, 4, (some .int)), (zy_532, prog_26_method_158_code, 3, none), (zy_533, prog_30_method_86_code, 6, none), (zy_534, prog_14_method_33_code, 7, none), (zy_535, prog_14_method_34_code, 5, (some .boolean)), (zy_536, prog_14_method_39_code, 3, (some .boolean)), (zy_537, prog_14_method_40_code, 4, (some .int)), (zy_538, prog_14_method_31_code, 3, none), (zy_539, prog_14_method_135_code, 2, none), (zy_540, prog_14_method_113_code, 1, none), (zy_541, prog_14_method_138_code, 3, (some .boolean)), (zy_542, prog_14_method_139_code, 3, (some .boolean)), (zy_543, prog_14_method_141_code, 3, none)],
  [(zy_544, prog_14_method_143_code, 3, none), (zy_545, prog_14_method_146_code, 4, none), (zy_546, prog_14_method_150_code, 4, none), (zy_547, prog_14_method_154_code, 4, none), (zy_548, prog_14_method_156_code, 10, none), (zy_549, prog_14_method_157_code, 4, none), (zy_550, prog_14_method_159_code, 2, none), (zy_551, prog_29_method_4_code, 1, (some .boolean)), (zy_552, prog_29_method_23_code, 6, (some .int)), (zy_553, prog_30_method_47_code, 4, (some .int)), (zy_554, prog_30_method_49_code, 7, (some .int)), (zy_555, prog_10_method_37_code, 4, none), (zy_556, prog_36_method_28_code, 3, (some .int)), (zy_557, prog_37_method_12_code, 4, (some .int)), (zy_558, prog_30_method_94_code, 3, none), (zy_559, prog_14_method_32_code, 2, (some .int))],
  [(zy_560, prog_14_method_36_code, 1, (some .boolean)), (zy_561, prog_14_method_37_code, 1, (some .boolean)), (zy_562, prog_14_method_38_code, 1, (some .boolean)), (zy_563, prog_14_method_115_code, 8, (some .int)), (zy_564, prog_14_method_111_code, 2, none), (zy_565, prog_14_method_121_code, 2, none), (zy_566, prog_14_method_122_code, 4, (some .boolean)), (zy_567, prog_14_method_136_code, 1, none), (zy_568, prog_14_method_137_code, 2, none), (zy_569, prog_14_method_133_code, 5, (some .int)), (zy_570, prog_14_method_128_code, 1, (some .int)), (zy_571, prog_14_method_129_code, 9, none), (zy_572, prog_14_method_127_code, 6, none), (zy_573, prog_14_method_126_code, 4, none), (zy_574, prog_14_method_134_code, 4, (some .int)), (zy_575, prog_14_method_142_code, 2, (some .int))],
  [(zy_576, prog_14_method_144_code, 2, none), (zy_577, prog_14_method_145_code, 3, none), (zy_578, prog_14_method_155_code, 3, none), (zy_579, prog_14_method_153_code, 2, (some .boolean)), (zy_580, prog_14_method_147_code, 1, none), (zy_581, prog_14_method_124_code, 2, none), (zy_582, prog_14_method_161_code, 8, none), (zy_583, prog_14_method_165_code, 8, none), (zy_584, prog_14_method_167_code, 7, none), (zy_585, prog_30_method_48_code, 5, (some .int)), (zy_586, prog_17_method_11_code, 2, (some .boolean)), (zy_587, prog_17_method_28_code, 1, (some .char)), (zy_588, prog_17_method_29_code, 1, (some .char)), (zy_589, prog_10_method_39_code, 3, none), (zy_590, prog_26_method_157_code, 3, (some .int)), (zy_591, prog_14_method_119_code, 5, none)],
  [(zy_592, prog_14_method_120_code, 2, none), (zy_593, prog_14_method_125_code, 3, none), (zy_594, prog_10_method_40_code, 3, none), (zy_595, prog_37_method_13_code, 4, (some .int)), (zy_596, prog_14_method_118_code, 6, none), (zy_597, prog_14_method_117_code, 4, none)]]
def zM0 : MethodName × ByteArray × Nat × Option FieldType := (zy_0, prog_1_method_1_code, 4, none)
def zMA (y : Nat) : MethodName × ByteArray × Nat × Option FieldType := (zMs.getD (y / 16) []).getD (y % 16) zM0
def zYN (y : Nat) : MethodName := (zMA y).1
def zCN (y : Nat) : ByteArray := (zMA y).2.1
def zRT (y : Nat) : Option FieldType := (zMA y).2.2.2
def zMQ (y : Nat) : Nat := (zMA y).2.2.1
theorem zyd_0 : zy_0.cls ≠ "java/lang/invoke/MethodHandle" ∧ zy_0.cls ≠ "java/lang/invoke/VarHandle" ∧ (parseMethodDescriptor zy_0.desc).map (fun d => d.parameters.length) = some 0 := by decide +kernel
theorem zyd_1 : zy_1.cls ≠ "java/lang/invoke/MethodHandle" ∧ zy_1.cls ≠ "java/lang/invoke/VarHandle" ∧ (parseMethodDescriptor zy_1.desc).map (fun d => d.parameters.length) = some 1 := by decide +kernel
theorem zyd_2 : zy_2.cls ≠ "java/lang/invoke/MethodHandle" ∧ zy_2.cls ≠ "java/lang/invoke/VarHandle" ∧ (parseMethodDescriptor zy_2.desc).map (fun d => d.parameters.length) = some 1 := by decide +kernel
theorem zyd_3 : zy_3.cls ≠ "java/lang/invoke/MethodHandle" ∧ zy_3.cls ≠ "java/lang/invoke/VarHandle" ∧ (parseMethodDescriptor zy_3.desc).map (fun d => d.parameters.length) = some 0 := by decide +kernel
theorem zyd_4 : zy_4.cls ≠ "java/lang/invoke/MethodHandle" ∧ zy_4.cls ≠ "java/lang/invoke/VarHandle" ∧ (parseMethodDescriptor zy_4.desc).map (fun d => d.parameters.length) = some 0 := by decide +kernel
theorem zyd_5 : zy_5.cls ≠ "java/lang/invoke/MethodHandle" ∧ zy_5.cls ≠ "java/lang/invoke/VarHandle" ∧ (parseMethodDescriptor zy_5.desc).map (fun d => d.parameters.length) = some 0 := by decide +kernel
theorem zyd_6 : zy_6.cls ≠ "java/lang/invoke/MethodHandle" ∧ zy_6.cls ≠ "java/lang/invoke/VarHandle" ∧ (parseMethodDescriptor zy_6.desc).map (fun d => d.parameters.length) = some 1 := by decide +kernel
theorem zyd_7 : zy_7.cls ≠ "java/lang/invoke/MethodHandle" ∧ zy_7.cls ≠ "java/lang/invoke/VarHandle" ∧ (parseMethodDescriptor zy_7.desc).map (fun d => d.parameters.length) = some 2 := by decide +kernel
theorem zyd_8 : zy_8.cls ≠ "java/lang/invoke/MethodHandle" ∧ zy_8.cls ≠ "java/lang/invoke/VarHandle" ∧ (parseMethodDescriptor zy_8.desc).map (fun d => d.parameters.length) = some 2 := by decide +kernel
theorem zyd_9 : zy_9.cls ≠ "java/lang/invoke/MethodHandle" ∧ zy_9.cls ≠ "java/lang/invoke/VarHandle" ∧ (parseMethodDescriptor zy_9.desc).map (fun d => d.parameters.length) = some 3 := by decide +kernel
theorem zyd_10 : zy_10.cls ≠ "java/lang/invoke/MethodHandle" ∧ zy_10.cls ≠ "java/lang/invoke/VarHandle" ∧ (parseMethodDescriptor zy_10.desc).map (fun d => d.parameters.length) = some 3 := by decide +kernel
theorem zyd_11 : zy_11.cls ≠ "java/lang/invoke/MethodHandle" ∧ zy_11.cls ≠ "java/lang/invoke/VarHandle" ∧ (parseMethodDescriptor zy_11.desc).map (fun d => d.parameters.length) = some 3 := by decide +kernel
theorem zyd_12 : zy_12.cls ≠ "java/lang/invoke/MethodHandle" ∧ zy_12.cls ≠ "java/lang/invoke/VarHandle" ∧ (parseMethodDescriptor zy_12.desc).map (fun d => d.parameters.length) = some 3 := by decide +kernel
theorem zyd_13 : zy_13.cls ≠ "java/lang/invoke/MethodHandle" ∧ zy_13.cls ≠ "java/lang/invoke/VarHandle" ∧ (parseMethodDescriptor zy_13.desc).map (fun d => d.parameters.length) = some 1 := by decide +kernel
theorem zyd_14 : zy_14.cls ≠ "java/lang/invoke/MethodHandle" ∧ zy_14.cls ≠ "java/lang/invoke/VarHandle" ∧ (parseMethodDescriptor zy_14.desc).map (fun d => d.parameters.length) = some 2 := by decide +kernel
theorem zyd_15 : zy_15.cls ≠ "java/lang/invoke/MethodHandle" ∧ zy_15.cls ≠ "java/lang/invoke/VarHandle" ∧ (parseMethodDescriptor zy_15.desc).map (fun d => d.parameters.length) = some 1 := by decide +kernel
theorem zyd_16 : zy_16.cls ≠ "java/lang/invoke/MethodHandle" ∧ zy_16.cls ≠ "java/lang/invoke/VarHandle" ∧ (parseMethodDescriptor zy_16.desc).map (fun d => d.parameters.length) = some 1 := by decide +kernel
theorem zyd_17 : zy_17.cls ≠ "java/lang/invoke/MethodHandle" ∧ zy_17.cls ≠ "java/lang/invoke/VarHandle" ∧ (parseMethodDescriptor zy_17.desc).map (fun d => d.parameters.length) = some 1 := by decide +kernel
theorem zyd_18 : zy_18.cls ≠ "java/lang/invoke/MethodHandle" ∧ zy_18.cls ≠ "java/lang/invoke/VarHandle" ∧ (parseMethodDescriptor zy_18.desc).map (fun d => d.parameters.length) = some 1 := by decide +kernel
theorem zyd_19 : zy_19.cls ≠ "java/lang/invoke/MethodHandle" ∧ zy_19.cls ≠ "java/lang/invoke/VarHandle" ∧ (parseMethodDescriptor zy_19.desc).map (fun d => d.parameters.length) = some 1 := by decide +kernel
theorem zyd_20 : zy_20.cls ≠ "java/lang/invoke/MethodHandle" ∧ zy_20.cls ≠ "java/lang/invoke/VarHandle" ∧ (parseMethodDescriptor zy_20.desc).map (fun d => d.parameters.length) = some 2 := by decide +kernel
theorem zyd_21 : zy_21.cls ≠ "java/lang/invoke/MethodHandle" ∧ zy_21.cls ≠ "java/lang/invoke/VarHandle" ∧ (parseMethodDescriptor zy_21.desc).map (fun d => d.parameters.length) = some 1 := by decide +kernel
theorem zyd_22 : zy_22.cls ≠ "java/lang/invoke/MethodHandle" ∧ zy_22.cls ≠ "java/lang/invoke/VarHandle" ∧ (parseMethodDescriptor zy_22.desc).map (fun d => d.parameters.length) = some 1 := by decide +kernel
theorem zyd_23 : zy_23.cls ≠ "java/lang/invoke/MethodHandle" ∧ zy_23.cls ≠ "java/lang/invoke/VarHandle" ∧ (parseMethodDescriptor zy_23.desc).map (fun d => d.parameters.length) = some 1 := by decide +kernel
theorem zyd_24 : zy_24.cls ≠ "java/lang/invoke/MethodHandle" ∧ zy_24.cls ≠ "java/lang/invoke/VarHandle" ∧ (parseMethodDescriptor zy_24.desc).map (fun d => d.parameters.length) = some 0 := by decide +kernel
theorem zyd_25 : zy_25.cls ≠ "java/lang/invoke/MethodHandle" ∧ zy_25.cls ≠ "java/lang/invoke/VarHandle" ∧ (parseMethodDescriptor zy_25.desc).map (fun d => d.parameters.length) = some 1 := by decide +kernel
theorem zyd_26 : zy_26.cls ≠ "java/lang/invoke/MethodHandle" ∧ zy_26.cls ≠ "java/lang/invoke/VarHandle" ∧ (parseMethodDescriptor zy_26.desc).map (fun d => d.parameters.length) = some 1 := by decide +kernel
theorem zyd_27 : zy_27.cls ≠ "java/lang/invoke/MethodHandle" ∧ zy_27.cls ≠ "java/lang/invoke/VarHandle" ∧ (parseMethodDescriptor zy_27.desc).map (fun d => d.parameters.length) = some 0 := by decide +kernel
theorem zyd_28 : zy_28.cls ≠ "java/lang/invoke/MethodHandle" ∧ zy_28.cls ≠ "java/lang/invoke/VarHandle" ∧ (parseMethodDescriptor zy_28.desc).map (fun d => d.parameters.length) = some 0 := by decide +kernel
theorem zyd_29 : zy_29.cls ≠ "java/lang/invoke/MethodHandle" ∧ zy_29.cls ≠ "java/lang/invoke/VarHandle" ∧ (parseMethodDescriptor zy_29.desc).map (fun d => d.parameters.length) = some 0 := by decide +kernel
theorem zyd_30 : zy_30.cls ≠ "java/lang/invoke/MethodHandle" ∧ zy_30.cls ≠ "java/lang/invoke/VarHandle" ∧ (parseMethodDescriptor zy_30.desc).map (fun d => d.parameters.length) = some 1 := by decide +kernel
theorem zyd_31 : zy_31.cls ≠ "java/lang/invoke/MethodHandle" ∧ zy_31.cls ≠ "java/lang/invoke/VarHandle" ∧ (parseMethodDescriptor zy_31.desc).map (fun d => d.parameters.length) = some 2 := by decide +kernel
theorem zyd_32 : zy_32.cls ≠ "java/lang/invoke/MethodHandle" ∧ zy_32.cls ≠ "java/lang/invoke/VarHandle" ∧ (parseMethodDescriptor zy_32.desc).map (fun d => d.parameters.length) = some 2 := by decide +kernel
theorem zyd_33 : zy_33.cls ≠ "java/lang/invoke/MethodHandle" ∧ zy_33.cls ≠ "java/lang/invoke/VarHandle" ∧ (parseMethodDescriptor zy_33.desc).map (fun d => d.parameters.length) = some 3 := by decide +kernel
theorem zyd_34 : zy_34.cls ≠ "java/lang/invoke/MethodHandle" ∧ zy_34.cls ≠ "java/lang/invoke/VarHandle" ∧ (parseMethodDescriptor zy_34.desc).map (fun d => d.parameters.length) = some 3 := by decide +kernel
theorem zyd_35 : zy_35.cls ≠ "java/lang/invoke/MethodHandle" ∧ zy_35.cls ≠ "java/lang/invoke/VarHandle" ∧ (parseMethodDescriptor zy_35.desc).map (fun d => d.parameters.length) = some 3 := by decide +kernel
theorem zyd_36 : zy_36.cls ≠ "java/lang/invoke/MethodHandle" ∧ zy_36.cls ≠ "java/lang/invoke/VarHandle" ∧ (parseMethodDescriptor zy_36.desc).map (fun d => d.parameters.length) = some 3 := by decide +kernel
theorem zyd_37 : zy_37.cls ≠ "java/lang/invoke/MethodHandle" ∧ zy_37.cls ≠ "java/lang/invoke/VarHandle" ∧ (parseMethodDescriptor zy_37.desc).map (fun d => d.parameters.length) = some 1 := by decide +kernel
theorem zyd_38 : zy_38.cls ≠ "java/lang/invoke/MethodHandle" ∧ zy_38.cls ≠ "java/lang/invoke/VarHandle" ∧ (parseMethodDescriptor zy_38.desc).map (fun d => d.parameters.length) = some 2 := by decide +kernel
theorem zyd_39 : zy_39.cls ≠ "java/lang/invoke/MethodHandle" ∧ zy_39.cls ≠ "java/lang/invoke/VarHandle" ∧ (parseMethodDescriptor zy_39.desc).map (fun d => d.parameters.length) = some 1 := by decide +kernel
theorem zyd_40 : zy_40.cls ≠ "java/lang/invoke/MethodHandle" ∧ zy_40.cls ≠ "java/lang/invoke/VarHandle" ∧ (parseMethodDescriptor zy_40.desc).map (fun d => d.parameters.length) = some 1 := by decide +kernel
theorem zyd_41 : zy_41.cls ≠ "java/lang/invoke/MethodHandle" ∧ zy_41.cls ≠ "java/lang/invoke/VarHandle" ∧ (parseMethodDescriptor zy_41.desc).map (fun d => d.parameters.length) = some 1 := by decide +kernel
theorem zyd_42 : zy_42.cls ≠ "java/lang/invoke/MethodHandle" ∧ zy_42.cls ≠ "java/lang/invoke/VarHandle" ∧ (parseMethodDescriptor zy_42.desc).map (fun d => d.parameters.length) = some 1 := by decide +kernel
theorem zyd_43 : zy_43.cls ≠ "java/lang/invoke/MethodHandle" ∧ zy_43.cls ≠ "java/lang/invoke/VarHandle" ∧ (parseMethodDescriptor zy_43.desc).map (fun d => d.parameters.length) = some 1 := by decide +kernel
theorem zyd_44 : zy_44.cls ≠ "java/lang/invoke/MethodHandle" ∧ zy_44.cls ≠ "java/lang/invoke/VarHandle" ∧ (parseMethodDescriptor zy_44.desc).map (fun d => d.parameters.length) = some 2 := by decide +kernel
theorem zyd_45 : zy_45.cls ≠ "java/lang/invoke/MethodHandle" ∧ zy_45.cls ≠ "java/lang/invoke/VarHandle" ∧ (parseMethodDescriptor zy_45.desc).map (fun d => d.parameters.length) = some 1 := by decide +kernel
theorem zyd_46 : zy_46.cls ≠ "java/lang/invoke/MethodHandle" ∧ zy_46.cls ≠ "java/lang/invoke/VarHandle" ∧ (parseMethodDescriptor zy_46.desc).map (fun d => d.parameters.length) = some 1 := by decide +kernel
theorem zyd_47 : zy_47.cls ≠ "java/lang/invoke/MethodHandle" ∧ zy_47.cls ≠ "java/lang/invoke/VarHandle" ∧ (parseMethodDescriptor zy_47.desc).map (fun d => d.parameters.length) = some 1 := by decide +kernel
theorem zyd_48 : zy_48.cls ≠ "java/lang/invoke/MethodHandle" ∧ zy_48.cls ≠ "java/lang/invoke/VarHandle" ∧ (parseMethodDescriptor zy_48.desc).map (fun d => d.parameters.length) = some 0 := by decide +kernel
theorem zyd_49 : zy_49.cls ≠ "java/lang/invoke/MethodHandle" ∧ zy_49.cls ≠ "java/lang/invoke/VarHandle" ∧ (parseMethodDescriptor zy_49.desc).map (fun d => d.parameters.length) = some 0 := by decide +kernel
theorem zyd_50 : zy_50.cls ≠ "java/lang/invoke/MethodHandle" ∧ zy_50.cls ≠ "java/lang/invoke/VarHandle" ∧ (parseMethodDescriptor zy_50.desc).map (fun d => d.parameters.length) = some 1 := by decide +kernel
theorem zyd_51 : zy_51.cls ≠ "java/lang/invoke/MethodHandle" ∧ zy_51.cls ≠ "java/lang/invoke/VarHandle" ∧ (parseMethodDescriptor zy_51.desc).map (fun d => d.parameters.length) = some 1 := by decide +kernel
theorem zyd_52 : zy_52.cls ≠ "java/lang/invoke/MethodHandle" ∧ zy_52.cls ≠ "java/lang/invoke/VarHandle" ∧ (parseMethodDescriptor zy_52.desc).map (fun d => d.parameters.length) = some 1 := by decide +kernel
theorem zyd_53 : zy_53.cls ≠ "java/lang/invoke/MethodHandle" ∧ zy_53.cls ≠ "java/lang/invoke/VarHandle" ∧ (parseMethodDescriptor zy_53.desc).map (fun d => d.parameters.length) = some 1 := by decide +kernel
theorem zyd_54 : zy_54.cls ≠ "java/lang/invoke/MethodHandle" ∧ zy_54.cls ≠ "java/lang/invoke/VarHandle" ∧ (parseMethodDescriptor zy_54.desc).map (fun d => d.parameters.length) = some 2 := by decide +kernel
theorem zyd_55 : zy_55.cls ≠ "java/lang/invoke/MethodHandle" ∧ zy_55.cls ≠ "java/lang/invoke/VarHandle" ∧ (parseMethodDescriptor zy_55.desc).map (fun d => d.parameters.length) = some 1 := by decide +kernel
theorem zyd_56 : zy_56.cls ≠ "java/lang/invoke/MethodHandle" ∧ zy_56.cls ≠ "java/lang/invoke/VarHandle" ∧ (parseMethodDescriptor zy_56.desc).map (fun d => d.parameters.length) = some 0 := by decide +kernel
theorem zyd_57 : zy_57.cls ≠ "java/lang/invoke/MethodHandle" ∧ zy_57.cls ≠ "java/lang/invoke/VarHandle" ∧ (parseMethodDescriptor zy_57.desc).map (fun d => d.parameters.length) = some 6 := by decide +kernel
theorem zyd_58 : zy_58.cls ≠ "java/lang/invoke/MethodHandle" ∧ zy_58.cls ≠ "java/lang/invoke/VarHandle" ∧ (parseMethodDescriptor zy_58.desc).map (fun d => d.parameters.length) = some 0 := by decide +kernel
theorem zyd_59 : zy_59.cls ≠ "java/lang/invoke/MethodHandle" ∧ zy_59.cls ≠ "java/lang/invoke/VarHandle" ∧ (parseMethodDescriptor zy_59.desc).map (fun d => d.parameters.length) = some 1 := by decide +kernel
theorem zyd_60 : zy_60.cls ≠ "java/lang/invoke/MethodHandle" ∧ zy_60.cls ≠ "java/lang/invoke/VarHandle" ∧ (parseMethodDescriptor zy_60.desc).map (fun d => d.parameters.length) = some 3 := by decide +kernel
theorem zyd_61 : zy_61.cls ≠ "java/lang/invoke/MethodHandle" ∧ zy_61.cls ≠ "java/lang/invoke/VarHandle" ∧ (parseMethodDescriptor zy_61.desc).map (fun d => d.parameters.length) = some 0 := by decide +kernel
theorem zyd_62 : zy_62.cls ≠ "java/lang/invoke/MethodHandle" ∧ zy_62.cls ≠ "java/lang/invoke/VarHandle" ∧ (parseMethodDescriptor zy_62.desc).map (fun d => d.parameters.length) = some 3 := by decide +kernel
theorem zyd_63 : zy_63.cls ≠ "java/lang/invoke/MethodHandle" ∧ zy_63.cls ≠ "java/lang/invoke/VarHandle" ∧ (parseMethodDescriptor zy_63.desc).map (fun d => d.parameters.length) = some 1 := by decide +kernel
theorem zyd_64 : zy_64.cls ≠ "java/lang/invoke/MethodHandle" ∧ zy_64.cls ≠ "java/lang/invoke/VarHandle" ∧ (parseMethodDescriptor zy_64.desc).map (fun d => d.parameters.length) = some 2 := by decide +kernel
theorem zyd_65 : zy_65.cls ≠ "java/lang/invoke/MethodHandle" ∧ zy_65.cls ≠ "java/lang/invoke/VarHandle" ∧ (parseMethodDescriptor zy_65.desc).map (fun d => d.parameters.length) = some 1 := by decide +kernel
theorem zyd_66 : zy_66.cls ≠ "java/lang/invoke/MethodHandle" ∧ zy_66.cls ≠ "java/lang/invoke/VarHandle" ∧ (parseMethodDescriptor zy_66.desc).map (fun d => d.parameters.length) = some 3 := by decide +kernel
theorem zyd_67 : zy_67.cls ≠ "java/lang/invoke/MethodHandle" ∧ zy_67.cls ≠ "java/lang/invoke/VarHandle" ∧ (parseMethodDescriptor zy_67.desc).map (fun d => d.parameters.length) = some 4 := by decide +kernel
theorem zyd_68 : zy_68.cls ≠ "java/lang/invoke/MethodHandle" ∧ zy_68.cls ≠ "java/lang/invoke/VarHandle" ∧ (parseMethodDescriptor zy_68.desc).map (fun d => d.parameters.length) = some 3 := by decide +kernel
theorem zyd_69 : zy_69.cls ≠ "java/lang/invoke/MethodHandle" ∧ zy_69.cls ≠ "java/lang/invoke/VarHandle" ∧ (parseMethodDescriptor zy_69.desc).map (fun d => d.parameters.length) = some 0 := by decide +kernel
theorem zyd_70 : zy_70.cls ≠ "java/lang/invoke/MethodHandle" ∧ zy_70.cls ≠ "java/lang/invoke/VarHandle" ∧ (parseMethodDescriptor zy_70.desc).map (fun d => d.parameters.length) = some 1 := by decide +kernel
theorem zyd_71 : zy_71.cls ≠ "java/lang/invoke/MethodHandle" ∧ zy_71.cls ≠ "java/lang/invoke/VarHandle" ∧ (parseMethodDescriptor zy_71.desc).map (fun d => d.parameters.length) = some 1 := by decide +kernel
theorem zyd_72 : zy_72.cls ≠ "java/lang/invoke/MethodHandle" ∧ zy_72.cls ≠ "java/lang/invoke/VarHandle" ∧ (parseMethodDescriptor zy_72.desc).map (fun d => d.parameters.length) = some 2 := by decide +kernel
theorem zyd_73 : zy_73.cls ≠ "java/lang/invoke/MethodHandle" ∧ zy_73.cls ≠ "java/lang/invoke/VarHandle" ∧ (parseMethodDescriptor zy_73.desc).map (fun d => d.parameters.length) = some 2 := by decide +kernel
theorem zyd_74 : zy_74.cls ≠ "java/lang/invoke/MethodHandle" ∧ zy_74.cls ≠ "java/lang/invoke/VarHandle" ∧ (parseMethodDescriptor zy_74.desc).map (fun d => d.parameters.length) = some 3 := by decide +kernel
theorem zyd_75 : zy_75.cls ≠ "java/lang/invoke/MethodHandle" ∧ zy_75.cls ≠ "java/lang/invoke/VarHandle" ∧ (parseMethodDescriptor zy_75.desc).map (fun d => d.parameters.length) = some 0 := by decide +kernel
theorem zyd_76 : zy_76.cls ≠ "java/lang/invoke/MethodHandle" ∧ zy_76.cls ≠ "java/lang/invoke/VarHandle" ∧ (parseMethodDescriptor zy_76.desc).map (fun d => d.parameters.length) = some 0 := by decide +kernel
theorem zyd_77 : zy_77.cls ≠ "java/lang/invoke/MethodHandle" ∧ zy_77.cls ≠ "java/lang/invoke/VarHandle" ∧ (parseMethodDescriptor zy_77.desc).map (fun d => d.parameters.length) = some 0 := by decide +kernel
theorem zyd_78 : zy_78.cls ≠ "java/lang/invoke/MethodHandle" ∧ zy_78.cls ≠ "java/lang/invoke/VarHandle" ∧ (parseMethodDescriptor zy_78.desc).map (fun d => d.parameters.length) = some 3 := by decide +kernel
theorem zyd_79 : zy_79.cls ≠ "java/lang/invoke/MethodHandle" ∧ zy_79.cls ≠ "java/lang/invoke/VarHandle" ∧ (parseMethodDescriptor zy_79.desc).map (fun d => d.parameters.length) = some 2 := by decide +kernel
theorem zyd_80 : zy_80.cls ≠ "java/lang/invoke/MethodHandle" ∧ zy_80.cls ≠ "java/lang/invoke/VarHandle" ∧ (parseMethodDescriptor zy_80.desc).map (fun d => d.parameters.length) = some 0 := by decide +kernel
theorem zyd_81 : zy_81.cls ≠ "java/lang/invoke/MethodHandle" ∧ zy_81.cls ≠ "java/lang/invoke/VarHandle" ∧ (parseMethodDescriptor zy_81.desc).map (fun d => d.parameters.length) = some 0 := by decide +kernel
theorem zyd_82 : zy_82.cls ≠ "java/lang/invoke/MethodHandle" ∧ zy_82.cls ≠ "java/lang/invoke/VarHandle" ∧ (parseMethodDescriptor zy_82.desc).map (fun d => d.parameters.length) = some 0 := by decide +kernel
theorem zyd_83 : zy_83.cls ≠ "java/lang/invoke/MethodHandle" ∧ zy_83.cls ≠ "java/lang/invoke/VarHandle" ∧ (parseMethodDescriptor zy_83.desc).map (fun d => d.parameters.length) = some 0 := by decide +kernel
theorem zyd_84 : zy_84.cls ≠ "java/lang/invoke/MethodHandle" ∧ zy_84.cls ≠ "java/lang/invoke/VarHandle" ∧ (parseMethodDescriptor zy_84.desc).map (fun d => d.parameters.length) = some 0 := by decide +kernel
theorem zyd_85 : zy_85.cls ≠ "java/lang/invoke/MethodHandle" ∧ zy_85.cls ≠ "java/lang/invoke/VarHandle" ∧ (parseMethodDescriptor zy_85.desc).map (fun d => d.parameters.length) = some 2 := by decide +kernel
theorem zyd_86 : zy_86.cls ≠ "java/lang/invoke/MethodHandle" ∧ zy_86.cls ≠ "java/lang/invoke/VarHandle" ∧ (parseMethodDescriptor zy_86.desc).map (fun d => d.parameters.length) = some 0 := by decide +kernel
theorem zyd_87 : zy_87.cls ≠ "java/lang/invoke/MethodHandle" ∧ zy_87.cls ≠ "java/lang/invoke/VarHandle" ∧ (parseMethodDescriptor zy_87.desc).map (fun d => d.parameters.length) = some 1 := by decide +kernel
theorem zyd_88 : zy_88.cls ≠ "java/lang/invoke/MethodHandle" ∧ zy_88.cls ≠ "java/lang/invoke/VarHandle" ∧ (parseMethodDescriptor zy_88.desc).map (fun d => d.parameters.length) = some 2 := by decide +kernel
theorem zyd_89 : zy_89.cls ≠ "java/lang/invoke/MethodHandle" ∧ zy_89.cls ≠ "java/lang/invoke/VarHandle" ∧ (parseMethodDescriptor zy_89.desc).map (fun d => d.parameters.length) = some 0 := by decide +kernel
theorem zyd_90 : zy_90.cls ≠ "java/lang/invoke/MethodHandle" ∧ zy_90.cls ≠ "java/lang/invoke/VarHandle" ∧ (parseMethodDescriptor zy_90.desc).map (fun d => d.parameters.length) = some 0 := by decide +kernel
theorem zyd_91 : zy_91.cls ≠ "java/lang/invoke/MethodHandle" ∧ zy_91.cls ≠ "java/lang/invoke/VarHandle" ∧ (parseMethodDescriptor zy_91.desc).map (fun d => d.parameters.length) = some 0 := by decide +kernel
theorem zyd_92 : zy_92.cls ≠ "java/lang/invoke/MethodHandle" ∧ zy_92.cls ≠ "java/lang/invoke/VarHandle" ∧ (parseMethodDescriptor zy_92.desc).map (fun d => d.parameters.length) = some 0 := by decide +kernel
theorem zyd_93 : zy_93.cls ≠ "java/lang/invoke/MethodHandle" ∧ zy_93.cls ≠ "java/lang/invoke/VarHandle" ∧ (parseMethodDescriptor zy_93.desc).map (fun d => d.parameters.length) = some 0 := by decide +kernel
theorem zyd_94 : zy_94.cls ≠ "java/lang/invoke/MethodHandle" ∧ zy_94.cls ≠ "java/lang/invoke/VarHandle" ∧ (parseMethodDescriptor zy_94.desc).map (fun d => d.parameters.length) = some 2 := by decide +kernel
theorem zyd_95 : zy_95.cls ≠ "java/lang/invoke/MethodHandle" ∧ zy_95.cls ≠ "java/lang/invoke/VarHandle" ∧ (parseMethodDescriptor zy_95.desc).map (fun d => d.parameters.length) = some 3 := by decide +kernel
theorem zyd_96 : zy_96.cls ≠ "java/lang/invoke/MethodHandle" ∧ zy_96.cls ≠ "java/lang/invoke/VarHandle" ∧ (parseMethodDescriptor zy_96.desc).map (fun d => d.parameters.length) = some 1 := by decide +kernel
theorem zyd_97 : zy_97.cls ≠ "java/lang/invoke/MethodHandle" ∧ zy_97.cls ≠ "java/lang/invoke/VarHandle" ∧ (parseMethodDescriptor zy_97.desc).map (fun d => d.parameters.length) = some 0 := by decide +kernel
theorem zyd_98 : zy_98.cls ≠ "java/lang/invoke/MethodHandle" ∧ zy_98.cls ≠ "java/lang/invoke/VarHandle" ∧ (parseMethodDescriptor zy_98.desc).map (fun d => d.parameters.length) = some 0 := by decide +kernel
theorem zyd_99 : zy_99.cls ≠ "java/lang/invoke/MethodHandle" ∧ zy_99.cls ≠ "java/lang/invoke/VarHandle" ∧ (parseMethodDescriptor zy_99.desc).map (fun d => d.parameters.length) = some 2 := by decide +kernel
theorem zyd_100 : zy_100.cls ≠ "java/lang/invoke/MethodHandle" ∧ zy_100.cls ≠ "java/lang/invoke/VarHandle" ∧ (parseMethodDescriptor zy_100.desc).map (fun d => d.parameters.length) = some 1 := by decide +kernel
theorem zyd_101 : zy_101.cls ≠ "java/lang/invoke/MethodHandle" ∧ zy_101.cls ≠ "java/lang/invoke/VarHandle" ∧ (parseMethodDescriptor zy_101.desc).map (fun d => d.parameters.length) = some 1 := by decide +kernel
theorem zyd_102 : zy_102.cls ≠ "java/lang/invoke/MethodHandle" ∧ zy_102.cls ≠ "java/lang/invoke/VarHandle" ∧ (parseMethodDescriptor zy_102.desc).map (fun d => d.parameters.length) = some 1 := by decide +kernel
theorem zyd_103 : zy_103.cls ≠ "java/lang/invoke/MethodHandle" ∧ zy_103.cls ≠ "java/lang/invoke/VarHandle" ∧ (parseMethodDescriptor zy_103.desc).map (fun d => d.parameters.length) = some 1 := by decide +kernel
theorem zyd_104 : zy_104.cls ≠ "java/lang/invoke/MethodHandle" ∧ zy_104.cls ≠ "java/lang/invoke/VarHandle" ∧ (parseMethodDescriptor zy_104.desc).map (fun d => d.parameters.length) = some 1 := by decide +kernel
theorem zyd_105 : zy_105.cls ≠ "java/lang/invoke/MethodHandle" ∧ zy_105.cls ≠ "java/lang/invoke/VarHandle" ∧ (parseMethodDescriptor zy_105.desc).map (fun d => d.parameters.length) = some 2 := by decide +kernel
theorem zyd_106 : zy_106.cls ≠ "java/lang/invoke/MethodHandle" ∧ zy_106.cls ≠ "java/lang/invoke/VarHandle" ∧ (parseMethodDescriptor zy_106.desc).map (fun d => d.parameters.length) = some 0 := by decide +kernel
theorem zyd_107 : zy_107.cls ≠ "java/lang/invoke/MethodHandle" ∧ zy_107.cls ≠ "java/lang/invoke/VarHandle" ∧ (parseMethodDescriptor zy_107.desc).map (fun d => d.parameters.length) = some 1 := by decide +kernel
theorem zyd_108 : zy_108.cls ≠ "java/lang/invoke/MethodHandle" ∧ zy_108.cls ≠ "java/lang/invoke/VarHandle" ∧ (parseMethodDescriptor zy_108.desc).map (fun d => d.parameters.length) = some 2 := by decide +kernel
theorem zyd_109 : zy_109.cls ≠ "java/lang/invoke/MethodHandle" ∧ zy_109.cls ≠ "java/lang/invoke/VarHandle" ∧ (parseMethodDescriptor zy_109.desc).map (fun d => d.parameters.length) = some 2 := by decide +kernel
theorem zyd_110 : zy_110.cls ≠ "java/lang/invoke/MethodHandle" ∧ zy_110.cls ≠ "java/lang/invoke/VarHandle" ∧ (parseMethodDescriptor zy_110.desc).map (fun d => d.parameters.length) = some 4 := by decide +kernel
theorem zyd_111 : zy_111.cls ≠ "java/lang/invoke/MethodHandle" ∧ zy_111.cls ≠ "java/lang/invoke/VarHandle" ∧ (parseMethodDescriptor zy_111.desc).map (fun d => d.parameters.length) = some 0 := by decide +kernel
theorem zyd_112 : zy_112.cls ≠ "java/lang/invoke/MethodHandle" ∧ zy_112.cls ≠ "java/lang/invoke/VarHandle" ∧ (parseMethodDescriptor zy_112.desc).map (fun d => d.parameters.length) = some 1 := by decide +kernel
theorem zyd_113 : zy_113.cls ≠ "java/lang/invoke/MethodHandle" ∧ zy_113.cls ≠ "java/lang/invoke/VarHandle" ∧ (parseMethodDescriptor zy_113.desc).map (fun d => d.parameters.length) = some 0 := by decide +kernel
theorem zyd_114 : zy_114.cls ≠ "java/lang/invoke/MethodHandle" ∧ zy_114.cls ≠ "java/lang/invoke/VarHandle" ∧ (parseMethodDescriptor zy_114.desc).map (fun d => d.parameters.length) = some 2 := by decide +kernel
theorem zyd_115 : zy_115.cls ≠ "java/lang/invoke/MethodHandle" ∧ zy_115.cls ≠ "java/lang/invoke/VarHandle" ∧ (parseMethodDescriptor zy_115.desc).map (fun d => d.parameters.length) = some 1 := by decide +kernel
theorem zyd_116 : zy_116.cls ≠ "java/lang/invoke/MethodHandle" ∧ zy_116.cls ≠ "java/lang/invoke/VarHandle" ∧ (parseMethodDescriptor zy_116.desc).map (fun d => d.parameters.length) = some 1 := by decide +kernel
theorem zyd_117 : zy_117.cls ≠ "java/lang/invoke/MethodHandle" ∧ zy_117.cls ≠ "java/lang/invoke/VarHandle" ∧ (parseMethodDescriptor zy_117.desc).map (fun d => d.parameters.length) = some 0 := by decide +kernel
theorem zyd_118 : zy_118.cls ≠ "java/lang/invoke/MethodHandle" ∧ zy_118.cls ≠ "java/lang/invoke/VarHandle" ∧ (parseMethodDescriptor zy_118.desc).map (fun d => d.parameters.length) = some 0 := by decide +kernel
theorem zyd_119 : zy_119.cls ≠ "java/lang/invoke/MethodHandle" ∧ zy_119.cls ≠ "java/lang/invoke/VarHandle" ∧ (parseMethodDescriptor zy_119.desc).map (fun d => d.parameters.length) = some 2 := by decide +kernel
theorem zyd_120 : zy_120.cls ≠ "java/lang/invoke/MethodHandle" ∧ zy_120.cls ≠ "java/lang/invoke/VarHandle" ∧ (parseMethodDescriptor zy_120.desc).map (fun d => d.parameters.length) = some 2 := by decide +kernel
theorem zyd_121 : zy_121.cls ≠ "java/lang/invoke/MethodHandle" ∧ zy_121.cls ≠ "java/lang/invoke/VarHandle" ∧ (parseMethodDescriptor zy_121.desc).map (fun d => d.parameters.length) = some 0 := by decide +kernel
theorem zyd_122 : zy_122.cls ≠ "java/lang/invoke/MethodHandle" ∧ zy_122.cls ≠ "java/lang/invoke/VarHandle" ∧ (parseMethodDescriptor zy_122.desc).map (fun d => d.parameters.length) = some 2 := by decide +kernel
theorem zyd_123 : zy_123.cls ≠ "java/lang/invoke/MethodHandle" ∧ zy_123.cls ≠ "java/lang/invoke/VarHandle" ∧ (parseMethodDescriptor zy_123.desc).map (fun d => d.parameters.length) = some 0 := by decide +kernel
theorem zyd_124 : zy_124.cls ≠ "java/lang/invoke/MethodHandle" ∧ zy_124.cls ≠ "java/lang/invoke/VarHandle" ∧ (parseMethodDescriptor zy_124.desc).map (fun d => d.parameters.length) = some 1 := by decide +kernel
theorem zyd_125 : zy_125.cls ≠ "java/lang/invoke/MethodHandle" ∧ zy_125.cls ≠ "java/lang/invoke/VarHandle" ∧ (parseMethodDescriptor zy_125.desc).map (fun d => d.parameters.length) = some 3 := by decide +kernel
theorem zyd_126 : zy_126.cls ≠ "java/lang/invoke/MethodHandle" ∧ zy_126.cls ≠ "java/lang/invoke/VarHandle" ∧ (parseMethodDescriptor zy_126.desc).map (fun d => d.parameters.length) = some 0 := by decide +kernel
theorem zyd_127 : zy_127.cls ≠ "java/lang/invoke/MethodHandle" ∧ zy_127.cls ≠ "java/lang/invoke/VarHandle" ∧ (parseMethodDescriptor zy_127.desc).map (fun d => d.parameters.length) = some 0 := by decide +kernel
theorem zyd_128 : zy_128.cls ≠ "java/lang/invoke/MethodHandle" ∧ zy_128.cls ≠ "java/lang/invoke/VarHandle" ∧ (parseMethodDescriptor zy_128.desc).map (fun d => d.parameters.length) = some 0 := by decide +kernel
theorem zyd_129 : zy_129.cls ≠ "java/lang/invoke/MethodHandle" ∧ zy_129.cls ≠ "java/lang/invoke/VarHandle" ∧ (parseMethodDescriptor zy_129.desc).map (fun d => d.parameters.length) = some 0 := by decide +kernel
theorem zyd_130 : zy_130.cls ≠ "java/lang/invoke/MethodHandle" ∧ zy_130.cls ≠ "java/lang/invoke/VarHandle" ∧ (parseMethodDescriptor zy_130.desc).map (fun d => d.parameters.length) = some 2 := by decide +kernel
theorem zyd_131 : zy_131.cls ≠ "java/lang/invoke/MethodHandle" ∧ zy_131.cls ≠ "java/lang/invoke/VarHandle" ∧ (parseMethodDescriptor zy_131.desc).map (fun d => d.parameters.length) = some 0 := by decide +kernel
theorem zyd_132 : zy_132.cls ≠ "java/lang/invoke/MethodHandle" ∧ zy_132.cls ≠ "java/lang/invoke/VarHandle" ∧ (parseMethodDescriptor zy_132.desc).map (fun d => d.parameters.length) = some 0 := by decide +kernel
theorem zyd_133 : zy_133.cls ≠ "java/lang/invoke/MethodHandle" ∧ zy_133.cls ≠ "java/lang/invoke/VarHandle" ∧ (parseMethodDescriptor zy_133.desc).map (fun d => d.parameters.length) = some 1 := by decide +kernel
theorem zyd_134 : zy_134.cls ≠ "java/lang/invoke/MethodHandle" ∧ zy_134.cls ≠ "java/lang/invoke/VarHandle" ∧ (parseMethodDescriptor zy_134.desc).map (fun d => d.parameters.length) = some 0 := by decide +kernel
theorem zyd_135 : zy_135.cls ≠ "java/lang/invoke/MethodHandle" ∧ zy_135.cls ≠ "java/lang/invoke/VarHandle" ∧ (parseMethodDescriptor zy_135.desc).map (fun d => d.parameters.length) = some 0 := by decide +kernel
theorem zyd_136 : zy_136.cls ≠ "java/lang/invoke/MethodHandle" ∧ zy_136.cls ≠ "java/lang/invoke/VarHandle" ∧ (parseMethodDescriptor zy_136.desc).map (fun d => d.parameters.length) = some 0 := by decide +kernel
theorem zyd_137 : zy_137.cls ≠ "java/lang/invoke/MethodHandle" ∧ zy_137.cls ≠ "java/lang/invoke/VarHandle" ∧ (parseMethodDescriptor zy_137.desc).map (fun d => d.parameters.length) = some 2 := by decide +kernel
theorem zyd_138 : zy_138.cls ≠ "java/lang/invoke/MethodHandle" ∧ zy_138.cls ≠ "java/lang/invoke/VarHandle" ∧ (parseMethodDescriptor zy_138.desc).map (fun d => d.parameters.length) = some 2 := by decide +kernel
theorem zyd_139 : zy_139.cls ≠ "java/lang/invoke/MethodHandle" ∧ zy_139.cls ≠ "java/lang/invoke/VarHandle" ∧ (parseMethodDescriptor zy_139.desc).map (fun d => d.parameters.length) = some 2 := by decide +kernel
theorem zyd_140 : zy_140.cls ≠ "java/lang/invoke/MethodHandle" ∧ zy_140.cls ≠ "java/lang/invoke/VarHandle" ∧ (parseMethodDescriptor zy_140.desc).map (fun d => d.parameters.length) = some 1 := by decide +kernel
theorem zyd_141 : zy_141.cls ≠ "java/lang/invoke/MethodHandle" ∧ zy_141.cls ≠ "java/lang/invoke/VarHandle" ∧ (parseMethodDescriptor zy_141.desc).map (fun d => d.parameters.length) = some 2 := by decide +kernel
theorem zyd_142 : zy_142.cls ≠ "java/lang/invoke/MethodHandle" ∧ zy_142.cls ≠ "java/lang/invoke/VarHandle" ∧ (parseMethodDescriptor zy_142.desc).map (fun d => d.parameters.length) = some 2 := by decide +kernel
theorem zyd_143 : zy_143.cls ≠ "java/lang/invoke/MethodHandle" ∧ zy_143.cls ≠ "java/lang/invoke/VarHandle" ∧ (parseMethodDescriptor zy_143.desc).map (fun d => d.parameters.length) = some 0 := by decide +kernel
theorem zyd_144 : zy_144.cls ≠ "java/lang/invoke/MethodHandle" ∧ zy_144.cls ≠ "java/lang/invoke/VarHandle" ∧ (parseMethodDescriptor zy_144.desc).map (fun d => d.parameters.length) = some 0 := by decide +kernel
theorem zyd_145 : zy_145.cls ≠ "java/lang/invoke/MethodHandle" ∧ zy_145.cls ≠ "java/lang/invoke/VarHandle" ∧ (parseMethodDescriptor zy_145.desc).map (fun d => d.parameters.length) = some 0 := by decide +kernel
theorem zyd_146 : zy_146.cls ≠ "java/lang/invoke/MethodHandle" ∧ zy_146.cls ≠ "java/lang/invoke/VarHandle" ∧ (parseMethodDescriptor zy_146.desc).map (fun d => d.parameters.length) = some 0 := by decide +kernel
theorem zyd_147 : zy_147.cls ≠ "java/lang/invoke/MethodHandle" ∧ zy_147.cls ≠ "java/lang/invoke/VarHandle" ∧ (parseMethodDescriptor zy_147.desc).map (fun d => d.parameters.length) = some 1 := by decide +kernel
theorem zyd_148 : zy_148.cls ≠ "java/lang/invoke/MethodHandle" ∧ zy_148.cls ≠ "java/lang/invoke/VarHandle" ∧ (parseMethodDescriptor zy_148.desc).map (fun d => d.parameters.length) = some 3 := by decide +kernel
theorem zyd_149 : zy_149.cls ≠ "java/lang/invoke/MethodHandle" ∧ zy_149.cls ≠ "java/lang/invoke/VarHandle" ∧ (parseMethodDescriptor zy_149.desc).map (fun d => d.parameters.length) = some 0 := by decide +kernel
theorem zyd_150 : zy_150.cls ≠ "java/lang/invoke/MethodHandle" ∧ zy_150.cls ≠ "java/lang/invoke/VarHandle" ∧ (parseMethodDescriptor zy_150.desc).map (fun d => d.parameters.length) = some 2 := by decide +kernel
theorem zyd_151 : zy_151.cls ≠ "java/lang/invoke/MethodHandle" ∧ zy_151.cls ≠ "java/lang/invoke/VarHandle" ∧ (parseMethodDescriptor zy_151.desc).map (fun d => d.parameters.length) = some 0 := by decide +kernel
theorem zyd_152 : zy_152.cls ≠ "java/lang/invoke/MethodHandle" ∧ zy_152.cls ≠ "java/lang/invoke/VarHandle" ∧ (parseMethodDescriptor zy_152.desc).map (fun d => d.parameters.length) = some 1 := by decide +kernel
theorem zyd_153 : zy_153.cls ≠ "java/lang/invoke/MethodHandle" ∧ zy_153.cls ≠ "java/lang/invoke/VarHandle" ∧ (parseMethodDescriptor zy_153.desc).map (fun d => d.parameters.length) = some 1 := by decide +kernel
theorem zyd_154 : zy_154.cls ≠ "java/lang/invoke/MethodHandle" ∧ zy_154.cls ≠ "java/lang/invoke/VarHandle" ∧ (parseMethodDescriptor zy_154.desc).map (fun d => d.parameters.length) = some 1 := by decide +kernel
theorem zyd_155 : zy_155.cls ≠ "java/lang/invoke/MethodHandle" ∧ zy_155.cls ≠ "java/lang/invoke/VarHandle" ∧ (parseMethodDescriptor zy_155.desc).map (fun d => d.parameters.length) = some 1 := by decide +kernel
theorem zyd_156 : zy_156.cls ≠ "java/lang/invoke/MethodHandle" ∧ zy_156.cls ≠ "java/lang/invoke/VarHandle" ∧ (parseMethodDescriptor zy_156.desc).map (fun d => d.parameters.length) = some 1 := by decide +kernel
theorem zyd_157 : zy_157.cls ≠ "java/lang/invoke/MethodHandle" ∧ zy_157.cls ≠ "java/lang/invoke/VarHandle" ∧ (parseMethodDescriptor zy_157.desc).map (fun d => d.parameters.length) = some 2 := by decide +kernel
theorem zyd_158 : zy_158.cls ≠ "java/lang/invoke/MethodHandle" ∧ zy_158.cls ≠ "java/lang/invoke/VarHandle" ∧ (parseMethodDescriptor zy_158.desc).map (fun d => d.parameters.length) = some 1 := by decide +kernel
theorem zyd_159 : zy_159.cls ≠ "java/lang/invoke/MethodHandle" ∧ zy_159.cls ≠ "java/lang/invoke/VarHandle" ∧ (parseMethodDescriptor zy_159.desc).map (fun d => d.parameters.length) = some 0 := by decide +kernel
theorem zyd_160 : zy_160.cls ≠ "java/lang/invoke/MethodHandle" ∧ zy_160.cls ≠ "java/lang/invoke/VarHandle" ∧ (parseMethodDescriptor zy_160.desc).map (fun d => d.parameters.length) = some 1 := by decide +kernel
theorem zyd_161 : zy_161.cls ≠ "java/lang/invoke/MethodHandle" ∧ zy_161.cls ≠ "java/lang/invoke/VarHandle" ∧ (parseMethodDescriptor zy_161.desc).map (fun d => d.parameters.length) = some 2 := by decide +kernel
theorem zyd_162 : zy_162.cls ≠ "java/lang/invoke/MethodHandle" ∧ zy_162.cls ≠ "java/lang/invoke/VarHandle" ∧ (parseMethodDescriptor zy_162.desc).map (fun d => d.parameters.length) = some 2 := by decide +kernel
theorem zyd_163 : zy_163.cls ≠ "java/lang/invoke/MethodHandle" ∧ zy_163.cls ≠ "java/lang/invoke/VarHandle" ∧ (parseMethodDescriptor zy_163.desc).map (fun d => d.parameters.length) = some 2 := by decide +kernel
theorem zyd_164 : zy_164.cls ≠ "java/lang/invoke/MethodHandle" ∧ zy_164.cls ≠ "java/lang/invoke/VarHandle" ∧ (parseMethodDescriptor zy_164.desc).map (fun d => d.parameters.length) = some 1 := by decide +kernel
theorem zyd_165 : zy_165.cls ≠ "java/lang/invoke/MethodHandle" ∧ zy_165.cls ≠ "java/lang/invoke/VarHandle" ∧ (parseMethodDescriptor zy_165.desc).map (fun d => d.parameters.length) = some 4 := by decide +kernel
theorem zyd_166 : zy_166.cls ≠ "java/lang/invoke/MethodHandle" ∧ zy_166.cls ≠ "java/lang/invoke/VarHandle" ∧ (parseMethodDescriptor zy_166.desc).map (fun d => d.parameters.length) = some 2 := by decide +kernel
theorem zyd_167 : zy_167.cls ≠ "java/lang/invoke/MethodHandle" ∧ zy_167.cls ≠ "java/lang/invoke/VarHandle" ∧ (parseMethodDescriptor zy_167.desc).map (fun d => d.parameters.length) = some 2 := by decide +kernel
theorem zyd_168 : zy_168.cls ≠ "java/lang/invoke/MethodHandle" ∧ zy_168.cls ≠ "java/lang/invoke/VarHandle" ∧ (parseMethodDescriptor zy_168.desc).map (fun d => d.parameters.length) = some 2 := by decide +kernel
theorem zyd_169 : zy_169.cls ≠ "java/lang/invoke/MethodHandle" ∧ zy_169.cls ≠ "java/lang/invoke/VarHandle" ∧ (parseMethodDescriptor zy_169.desc).map (fun d => d.parameters.length) = some 2 := by decide +kernel
theorem zyd_170 : zy_170.cls ≠ "java/lang/invoke/MethodHandle" ∧ zy_170.cls ≠ "java/lang/invoke/VarHandle" ∧ (parseMethodDescriptor zy_170.desc).map (fun d => d.parameters.length) = some 0 := by decide +kernel
theorem zyd_171 : zy_171.cls ≠ "java/lang/invoke/MethodHandle" ∧ zy_171.cls ≠ "java/lang/invoke/VarHandle" ∧ (parseMethodDescriptor zy_171.desc).map (fun d => d.parameters.length) = some 1 := by decide +kernel
theorem zyd_172 : zy_172.cls ≠ "java/lang/invoke/MethodHandle" ∧ zy_172.cls ≠ "java/lang/invoke/VarHandle" ∧ (parseMethodDescriptor zy_172.desc).map (fun d => d.parameters.length) = some 1 := by decide +kernel
theorem zyd_173 : zy_173.cls ≠ "java/lang/invoke/MethodHandle" ∧ zy_173.cls ≠ "java/lang/invoke/VarHandle" ∧ (parseMethodDescriptor zy_173.desc).map (fun d => d.parameters.length) = some 1 := by decide +kernel
theorem zyd_174 : zy_174.cls ≠ "java/lang/invoke/MethodHandle" ∧ zy_174.cls ≠ "java/lang/invoke/VarHandle" ∧ (parseMethodDescriptor zy_174.desc).map (fun d => d.parameters.length) = some 1 := by decide +kernel
theorem zyd_175 : zy_175.cls ≠ "java/lang/invoke/MethodHandle" ∧ zy_175.cls ≠ "java/lang/invoke/VarHandle" ∧ (parseMethodDescriptor zy_175.desc).map (fun d => d.parameters.length) = some 1 := by decide +kernel
theorem zyd_176 : zy_176.cls ≠ "java/lang/invoke/MethodHandle" ∧ zy_176.cls ≠ "java/lang/invoke/VarHandle" ∧ (parseMethodDescriptor zy_176.desc).map (fun d => d.parameters.length) = some 1 := by decide +kernel
theorem zyd_177 : zy_177.cls ≠ "java/lang/invoke/MethodHandle" ∧ zy_177.cls ≠ "java/lang/invoke/VarHandle" ∧ (parseMethodDescriptor zy_177.desc).map (fun d => d.parameters.length) = some 3 := by decide +kernel
theorem zyd_178 : zy_178.cls ≠ "java/lang/invoke/MethodHandle" ∧ zy_178.cls ≠ "java/lang/invoke/VarHandle" ∧ (parseMethodDescriptor zy_178.desc).map (fun d => d.parameters.length) = some 1 := by decide +kernel
theorem zyd_179 : zy_179.cls ≠ "java/lang/invoke/MethodHandle" ∧ zy_179.cls ≠ "java/lang/invoke/VarHandle" ∧ (parseMethodDescriptor zy_179.desc).map (fun d => d.parameters.length) = some 1 := by decide +kernel
theorem zyd_180 : zy_180.cls ≠ "java/lang/invoke/MethodHandle" ∧ zy_180.cls ≠ "java/lang/invoke/VarHandle" ∧ (parseMethodDescriptor zy_180.desc).map (fun d => d.parameters.length) = some 1 := by decide +kernel
theorem zyd_181 : zy_181.cls ≠ "java/lang/invoke/MethodHandle" ∧ zy_181.cls ≠ "java/lang/invoke/VarHandle" ∧ (parseMethodDescriptor zy_181.desc).map (fun d => d.parameters.length) = some 1 := by decide +kernel
theorem zyd_182 : zy_182.cls ≠ "java/lang/invoke/MethodHandle" ∧ zy_182.cls ≠ "java/lang/invoke/VarHandle" ∧ (parseMethodDescriptor zy_182.desc).map (fun d => d.parameters.length) = some 0 := by decide +kernel
theorem zyd_183 : zy_183.cls ≠ "java/lang/invoke/MethodHandle" ∧ zy_183.cls ≠ "java/lang/invoke/VarHandle" ∧ (parseMethodDescriptor zy_183.desc).map (fun d => d.parameters.length) = some 4 := by decide +kernel
theorem zyd_184 : zy_184.cls ≠ "java/lang/invoke/MethodHandle" ∧ zy_184.cls ≠ "java/lang/invoke/VarHandle" ∧ (parseMethodDescriptor zy_184.desc).map (fun d => d.parameters.length) = some 0 := by decide +kernel
theorem zyd_185 : zy_185.cls ≠ "java/lang/invoke/MethodHandle" ∧ zy_185.cls ≠ "java/lang/invoke/VarHandle" ∧ (parseMethodDescriptor zy_185.desc).map (fun d => d.parameters.length) = some 0 := by decide +kernel
theorem zyd_186 : zy_186.cls ≠ "java/lang/invoke/MethodHandle" ∧ zy_186.cls ≠ "java/lang/invoke/VarHandle" ∧ (parseMethodDescriptor zy_186.desc).map (fun d => d.parameters.length) = some 1 := by decide +kernel
theorem zyd_187 : zy_187.cls ≠ "java/lang/invoke/MethodHandle" ∧ zy_187.cls ≠ "java/lang/invoke/VarHandle" ∧ (parseMethodDescriptor zy_187.desc).map (fun d => d.parameters.length) = some 1 := by decide +kernel
theorem zyd_188 : zy_188.cls ≠ "java/lang/invoke/MethodHandle" ∧ zy_188.cls ≠ "java/lang/invoke/VarHandle" ∧ (parseMethodDescriptor zy_188.desc).map (fun d => d.parameters.length) = some 2 := by decide +kernel
theorem zyd_189 : zy_189.cls ≠ "java/lang/invoke/MethodHandle" ∧ zy_189.cls ≠ "java/lang/invoke/VarHandle" ∧ (parseMethodDescriptor zy_189.desc).map (fun d => d.parameters.length) = some 3 := by decide +kernel
theorem zyd_190 : zy_190.cls ≠ "java/lang/invoke/MethodHandle" ∧ zy_190.cls ≠ "java/lang/invoke/VarHandle" ∧ (parseMethodDescriptor zy_190.desc).map (fun d => d.parameters.length) = some 2 := by decide +kernel
theorem zyd_191 : zy_191.cls ≠ "java/lang/invoke/MethodHandle" ∧ zy_191.cls ≠ "java/lang/invoke/VarHandle" ∧ (parseMethodDescriptor zy_191.desc).map (fun d => d.parameters.length) = some 1 := by decide +kernel
theorem zyd_192 : zy_192.cls ≠ "java/lang/invoke/MethodHandle" ∧ zy_192.cls ≠ "java/lang/invoke/VarHandle" ∧ (parseMethodDescriptor zy_192.desc).map (fun d => d.parameters.length) = some 1 := by decide +kernel
theorem zyd_193 : zy_193.cls ≠ "java/lang/invoke/MethodHandle" ∧ zy_193.cls ≠ "java/lang/invoke/VarHandle" ∧ (parseMethodDescriptor zy_193.desc).map (fun d => d.parameters.length) = some 0 := by decide +kernel
theorem zyd_194 : zy_194.cls ≠ "java/lang/invoke/MethodHandle" ∧ zy_194.cls ≠ "java/lang/invoke/VarHandle" ∧ (parseMethodDescriptor zy_194.desc).map (fun d => d.parameters.length) = some 1 := by decide +kernel
theorem zyd_195 : zy_195.cls ≠ "java/lang/invoke/MethodHandle" ∧ zy_195.cls ≠ "java/lang/invoke/VarHandle" ∧ (parseMethodDescriptor zy_195.desc).map (fun d => d.parameters.length) = some 1 := by decide +kernel
theorem zyd_196 : zy_196.cls ≠ "java/lang/invoke/MethodHandle" ∧ zy_196.cls ≠ "java/lang/invoke/VarHandle" ∧ (parseMethodDescriptor zy_196.desc).map (fun d => d.parameters.length) = some 1 := by decide +kernel
theorem zyd_197 : zy_197.cls ≠ "java/lang/invoke/MethodHandle" ∧ zy_197.cls ≠ "java/lang/invoke/VarHandle" ∧ (parseMethodDescriptor zy_197.desc).map (fun d => d.parameters.length) = some 0 := by decide +kernel
theorem zyd_198 : zy_198.cls ≠ "java/lang/invoke/MethodHandle" ∧ zy_198.cls ≠ "java/lang/invoke/VarHandle" ∧ (parseMethodDescriptor zy_198.desc).map (fun d => d.parameters.length) = some 1 := by decide +kernel
theorem zyd_199 : zy_199.cls ≠ "java/lang/invoke/MethodHandle" ∧ zy_199.cls ≠ "java/lang/invoke/VarHandle" ∧ (parseMethodDescriptor zy_199.desc).map (fun d => d.parameters.length) = some 0 := by decide +kernel
theorem zyd_200 : zy_200.cls ≠ "java/lang/invoke/MethodHandle" ∧ zy_200.cls ≠ "java/lang/invoke/VarHandle" ∧ (parseMethodDescriptor zy_200.desc).map (fun d => d.parameters.length) = some 5 := by decide +kernel
theorem zyd_201 : zy_201.cls ≠ "java/lang/invoke/MethodHandle" ∧ zy_201.cls ≠ "java/lang/invoke/VarHandle" ∧ (parseMethodDescriptor zy_201.desc).map (fun d => d.parameters.length) = some 0 := by decide +kernel
theorem zyd_202 : zy_202.cls ≠ "java/lang/invoke/MethodHandle" ∧ zy_202.cls ≠ "java/lang/invoke/VarHandle" ∧ (parseMethodDescriptor zy_202.desc).map (fun d => d.parameters.length) = some 0 := by decide +kernel
theorem zyd_203 : zy_203.cls ≠ "java/lang/invoke/MethodHandle" ∧ zy_203.cls ≠ "java/lang/invoke/VarHandle" ∧ (parseMethodDescriptor zy_203.desc).map (fun d => d.parameters.length) = some 0 := by decide +kernel
theorem zyd_204 : zy_204.cls ≠ "java/lang/invoke/MethodHandle" ∧ zy_204.cls ≠ "java/lang/invoke/VarHandle" ∧ (parseMethodDescriptor zy_204.desc).map (fun d => d.parameters.length) = some 1 := by decide +kernel
theorem zyd_205 : zy_205.cls ≠ "java/lang/invoke/MethodHandle" ∧ zy_205.cls ≠ "java/lang/invoke/VarHandle" ∧ (parseMethodDescriptor zy_205.desc).map (fun d => d.parameters.length) = some 1 := by decide +kernel
theorem zyd_206 : zy_206.cls ≠ "java/lang/invoke/MethodHandle" ∧ zy_206.cls ≠ "java/lang/invoke/VarHandle" ∧ (parseMethodDescriptor zy_206.desc).map (fun d => d.parameters.length) = some 1 := by decide +kernel
theorem zyd_207 : zy_207.cls ≠ "java/lang/invoke/MethodHandle" ∧ zy_207.cls ≠ "java/lang/invoke/VarHandle" ∧ (parseMethodDescriptor zy_207.desc).map (fun d => d.parameters.length) = some 1 := by decide +kernel
theorem zyd_208 : zy_208.cls ≠ "java/lang/invoke/MethodHandle" ∧ zy_208.cls ≠ "java/lang/invoke/VarHandle" ∧ (parseMethodDescriptor zy_208.desc).map (fun d => d.parameters.length) = some 1 := by decide +kernel
theorem zyd_209 : zy_209.cls ≠ "java/lang/invoke/MethodHandle" ∧ zy_209.cls ≠ "java/lang/invoke/VarHandle" ∧ (parseMethodDescriptor zy_209.desc).map (fun d => d.parameters.length) = some 2 := by decide +kernel
theorem zyd_210 : zy_210.cls ≠ "java/lang/invoke/MethodHandle" ∧ zy_210.cls ≠ "java/lang/invoke/VarHandle" ∧ (parseMethodDescriptor zy_210.desc).map (fun d => d.parameters.length) = some 0 := by decide +kernel
theorem zyd_211 : zy_211.cls ≠ "java/lang/invoke/MethodHandle" ∧ zy_211.cls ≠ "java/lang/invoke/VarHandle" ∧ (parseMethodDescriptor zy_211.desc).map (fun d => d.parameters.length) = some 3 := by decide +kernel
theorem zyd_212 : zy_212.cls ≠ "java/lang/invoke/MethodHandle" ∧ zy_212.cls ≠ "java/lang/invoke/VarHandle" ∧ (parseMethodDescriptor zy_212.desc).map (fun d => d.parameters.length) = some 3 := by decide +kernel
theorem zyd_213 : zy_213.cls ≠ "java/lang/invoke/MethodHandle" ∧ zy_213.cls ≠ "java/lang/invoke/VarHandle" ∧ (parseMethodDescriptor zy_213.desc).map (fun d => d.parameters.length) = some 2 := by decide +kernel
theorem zyd_214 : zy_214.cls ≠ "java/lang/invoke/MethodHandle" ∧ zy_214.cls ≠ "java/lang/invoke/VarHandle" ∧ (parseMethodDescriptor zy_214.desc).map (fun d => d.parameters.length) = some 2 := by decide +kernel
theorem zyd_215 : zy_215.cls ≠ "java/lang/invoke/MethodHandle" ∧ zy_215.cls ≠ "java/lang/invoke/VarHandle" ∧ (parseMethodDescriptor zy_215.desc).map (fun d => d.parameters.length) = some 2 := by decide +kernel
theorem zyd_216 : zy_216.cls ≠ "java/lang/invoke/MethodHandle" ∧ zy_216.cls ≠ "java/lang/invoke/VarHandle" ∧ (parseMethodDescriptor zy_216.desc).map (fun d => d.parameters.length) = some 1 := by decide +kernel
theorem zyd_217 : zy_217.cls ≠ "java/lang/invoke/MethodHandle" ∧ zy_217.cls ≠ "java/lang/invoke/VarHandle" ∧ (parseMethodDescriptor zy_217.desc).map (fun d => d.parameters.length) = some 2 := by decide +kernel
theorem zyd_218 : zy_218.cls ≠ "java/lang/invoke/MethodHandle" ∧ zy_218.cls ≠ "java/lang/invoke/VarHandle" ∧ (parseMethodDescriptor zy_218.desc).map (fun d => d.parameters.length) = some 2 := by decide +kernel
theorem zyd_219 : zy_219.cls ≠ "java/lang/invoke/MethodHandle" ∧ zy_219.cls ≠ "java/lang/invoke/VarHandle" ∧ (parseMethodDescriptor zy_219.desc).map (fun d => d.parameters.length) = some 1 := by decide +kernel
theorem zyd_220 : zy_220.cls ≠ "java/lang/invoke/MethodHandle" ∧ zy_220.cls ≠ "java/lang/invoke/VarHandle" ∧ (parseMethodDescriptor zy_220.desc).map (fun d => d.parameters.length) = some 0 := by decide +kernel
theorem zyd_221 : zy_221.cls ≠ "java/lang/invoke/MethodHandle" ∧ zy_221.cls ≠ "java/lang/invoke/VarHandle" ∧ (parseMethodDescriptor zy_221.desc).map (fun d => d.parameters.length) = some 1 := by decide +kernel
theorem zyd_222 : zy_222.cls ≠ "java/lang/invoke/MethodHandle" ∧ zy_222.cls ≠ "java/lang/invoke/VarHandle" ∧ (parseMethodDescriptor zy_222.desc).map (fun d => d.parameters.length) = some 1 := by decide +kernel
theorem zyd_223 : zy_223.cls ≠ "java/lang/invoke/MethodHandle" ∧ zy_223.cls ≠ "java/lang/invoke/VarHandle" ∧ (parseMethodDescriptor zy_223.desc).map (fun d => d.parameters.length) = some 2 := by decide +kernel
theorem zyd_224 : zy_224.cls ≠ "java/lang/invoke/MethodHandle" ∧ zy_224.cls ≠ "java/lang/invoke/VarHandle" ∧ (parseMethodDescriptor zy_224.desc).map (fun d => d.parameters.length) = some 1 := by decide +kernel
theorem zyd_225 : zy_225.cls ≠ "java/lang/invoke/MethodHandle" ∧ zy_225.cls ≠ "java/lang/invoke/VarHandle" ∧ (parseMethodDescriptor zy_225.desc).map (fun d => d.parameters.length) = some 2 := by decide +kernel
theorem zyd_226 : zy_226.cls ≠ "java/lang/invoke/MethodHandle" ∧ zy_226.cls ≠ "java/lang/invoke/VarHandle" ∧ (parseMethodDescriptor zy_226.desc).map (fun d => d.parameters.length) = some 2 := by decide +kernel
theorem zyd_227 : zy_227.cls ≠ "java/lang/invoke/MethodHandle" ∧ zy_227.cls ≠ "java/lang/invoke/VarHandle" ∧ (parseMethodDescriptor zy_227.desc).map (fun d => d.parameters.length) = some 2 := by decide +kernel
theorem zyd_228 : zy_228.cls ≠ "java/lang/invoke/MethodHandle" ∧ zy_228.cls ≠ "java/lang/invoke/VarHandle" ∧ (parseMethodDescriptor zy_228.desc).map (fun d => d.parameters.length) = some 4 := by decide +kernel
theorem zyd_229 : zy_229.cls ≠ "java/lang/invoke/MethodHandle" ∧ zy_229.cls ≠ "java/lang/invoke/VarHandle" ∧ (parseMethodDescriptor zy_229.desc).map (fun d => d.parameters.length) = some 2 := by decide +kernel
theorem zyd_230 : zy_230.cls ≠ "java/lang/invoke/MethodHandle" ∧ zy_230.cls ≠ "java/lang/invoke/VarHandle" ∧ (parseMethodDescriptor zy_230.desc).map (fun d => d.parameters.length) = some 1 := by decide +kernel
theorem zyd_231 : zy_231.cls ≠ "java/lang/invoke/MethodHandle" ∧ zy_231.cls ≠ "java/lang/invoke/VarHandle" ∧ (parseMethodDescriptor zy_231.desc).map (fun d => d.parameters.length) = some 3 := by decide +kernel
theorem zyd_232 : zy_232.cls ≠ "java/lang/invoke/MethodHandle" ∧ zy_232.cls ≠ "java/lang/invoke/VarHandle" ∧ (parseMethodDescriptor zy_232.desc).map (fun d => d.parameters.length) = some 0 := by decide +kernel
theorem zyd_233 : zy_233.cls ≠ "java/lang/invoke/MethodHandle" ∧ zy_233.cls ≠ "java/lang/invoke/VarHandle" ∧ (parseMethodDescriptor zy_233.desc).map (fun d => d.parameters.length) = some 0 := by decide +kernel
theorem zyd_234 : zy_234.cls ≠ "java/lang/invoke/MethodHandle" ∧ zy_234.cls ≠ "java/lang/invoke/VarHandle" ∧ (parseMethodDescriptor zy_234.desc).map (fun d => d.parameters.length) = some 0 := by decide +kernel
theorem zyd_235 : zy_235.cls ≠ "java/lang/invoke/MethodHandle" ∧ zy_235.cls ≠ "java/lang/invoke/VarHandle" ∧ (parseMethodDescriptor zy_235.desc).map (fun d => d.parameters.length) = some 0 := by decide +kernel
theorem zyd_236 : zy_236.cls ≠ "java/lang/invoke/MethodHandle" ∧ zy_236.cls ≠ "java/lang/invoke/VarHandle" ∧ (parseMethodDescriptor zy_236.desc).map (fun d => d.parameters.length) = some 2 := by decide +kernel
theorem zyd_237 : zy_237.cls ≠ "java/lang/invoke/MethodHandle" ∧ zy_237.cls ≠ "java/lang/invoke/VarHandle" ∧ (parseMethodDescriptor zy_237.desc).map (fun d => d.parameters.length) = some 0 := by decide +kernel
theorem zyd_238 : zy_238.cls ≠ "java/lang/invoke/MethodHandle" ∧ zy_238.cls ≠ "java/lang/invoke/VarHandle" ∧ (parseMethodDescriptor zy_238.desc).map (fun d => d.parameters.length) = some 0 := by decide +kernel
theorem zyd_239 : zy_239.cls ≠ "java/lang/invoke/MethodHandle" ∧ zy_239.cls ≠ "java/lang/invoke/VarHandle" ∧ (parseMethodDescriptor zy_239.desc).map (fun d => d.parameters.length) = some 0 := by decide +kernel
theorem zyd_240 : zy_240.cls ≠ "java/lang/invoke/MethodHandle" ∧ zy_240.cls ≠ "java/lang/invoke/VarHandle" ∧ (parseMethodDescriptor zy_240.desc).map (fun d => d.parameters.length) = some 0 := by decide +kernel
theorem zyd_241 : zy_241.cls ≠ "java/lang/invoke/MethodHandle" ∧ zy_241.cls ≠ "java/lang/invoke/VarHandle" ∧ (parseMethodDescriptor zy_241.desc).map (fun d => d.parameters.length) = some 0 := by decide +kernel
theorem zyd_242 : zy_242.cls ≠ "java/lang/invoke/MethodHandle" ∧ zy_242.cls ≠ "java/lang/invoke/VarHandle" ∧ (parseMethodDescriptor zy_242.desc).map (fun d => d.parameters.length) = some 0 := by decide +kernel
theorem zyd_243 : zy_243.cls ≠ "java/lang/invoke/MethodHandle" ∧ zy_243.cls ≠ "java/lang/invoke/VarHandle" ∧ (parseMethodDescriptor zy_243.desc).map (fun d => d.parameters.length) = some 2 := by decide +kernel
theorem zyd_244 : zy_244.cls ≠ "java/lang/invoke/MethodHandle" ∧ zy_244.cls ≠ "java/lang/invoke/VarHandle" ∧ (parseMethodDescriptor zy_244.desc).map (fun d => d.parameters.length) = some 0 := by decide +kernel
theorem zyd_245 : zy_245.cls ≠ "java/lang/invoke/MethodHandle" ∧ zy_245.cls ≠ "java/lang/invoke/VarHandle" ∧ (parseMethodDescriptor zy_245.desc).map (fun d => d.parameters.length) = some 0 := by decide +kernel
theorem zyd_246 : zy_246.cls ≠ "java/lang/invoke/MethodHandle" ∧ zy_246.cls ≠ "java/lang/invoke/VarHandle" ∧ (parseMethodDescriptor zy_246.desc).map (fun d => d.parameters.length) = some 2 := by decide +kernel
theorem zyd_247 : zy_247.cls ≠ "java/lang/invoke/MethodHandle" ∧ zy_247.cls ≠ "java/lang/invoke/VarHandle" ∧ (parseMethodDescriptor zy_247.desc).map (fun d => d.parameters.length) = some 1 := by decide +kernel
theorem zyd_248 : zy_248.cls ≠ "java/lang/invoke/MethodHandle" ∧ zy_248.cls ≠ "java/lang/invoke/VarHandle" ∧ (parseMethodDescriptor zy_248.desc).map (fun d => d.parameters.length) = some 0 := by decide +kernel
theorem zyd_249 : zy_249.cls ≠ "java/lang/invoke/MethodHandle" ∧ zy_249.cls ≠ "java/lang/invoke/VarHandle" ∧ (parseMethodDescriptor zy_249.desc).map (fun d => d.parameters.length) = some 1 := by decide +kernel
theorem zyd_250 : zy_250.cls ≠ "java/lang/invoke/MethodHandle" ∧ zy_250.cls ≠ "java/lang/invoke/VarHandle" ∧ (parseMethodDescriptor zy_250.desc).map (fun d => d.parameters.length) = some 1 := by decide +kernel
theorem zyd_251 : zy_251.cls ≠ "java/lang/invoke/MethodHandle" ∧ zy_251.cls ≠ "java/lang/invoke/VarHandle" ∧ (parseMethodDescriptor zy_251.desc).map (fun d => d.parameters.length) = some 1 := by decide +kernel
theorem zyd_252 : zy_252.cls ≠ "java/lang/invoke/MethodHandle" ∧ zy_252.cls ≠ "java/lang/invoke/VarHandle" ∧ (parseMethodDescriptor zy_252.desc).map (fun d => d.parameters.length) = some 1 := by decide +kernel
theorem zyd_253 : zy_253.cls ≠ "java/lang/invoke/MethodHandle" ∧ zy_253.cls ≠ "java/lang/invoke/VarHandle" ∧ (parseMethodDescriptor zy_253.desc).map (fun d => d.parameters.length) = some 3 := by decide +kernel
theorem zyd_254 : zy_254.cls ≠ "java/lang/invoke/MethodHandle" ∧ zy_254.cls ≠ "java/lang/invoke/VarHandle" ∧ (parseMethodDescriptor zy_254.desc).map (fun d => d.parameters.length) = some 1 := by decide +kernel
theorem zyd_255 : zy_255.cls ≠ "java/lang/invoke/MethodHandle" ∧ zy_255.cls ≠ "java/lang/invoke/VarHandle" ∧ (parseMethodDescriptor zy_255.desc).map (fun d => d.parameters.length) = some 4 := by decide +kernel
theorem zyd_256 : zy_256.cls ≠ "java/lang/invoke/MethodHandle" ∧ zy_256.cls ≠ "java/lang/invoke/VarHandle" ∧ (parseMethodDescriptor zy_256.desc).map (fun d => d.parameters.length) = some 1 := by decide +kernel
theorem zyd_257 : zy_257.cls ≠ "java/lang/invoke/MethodHandle" ∧ zy_257.cls ≠ "java/lang/invoke/VarHandle" ∧ (parseMethodDescriptor zy_257.desc).map (fun d => d.parameters.length) = some 4 := by decide +kernel
theorem zyd_258 : zy_258.cls ≠ "java/lang/invoke/MethodHandle" ∧ zy_258.cls ≠ "java/lang/invoke/VarHandle" ∧ (parseMethodDescriptor zy_258.desc).map (fun d => d.parameters.length) = some 2 := by decide +kernel
theorem zyd_259 : zy_259.cls ≠ "java/lang/invoke/MethodHandle" ∧ zy_259.cls ≠ "java/lang/invoke/VarHandle" ∧ (parseMethodDescriptor zy_259.desc).map (fun d => d.parameters.length) = some 0 := by decide +kernel
theorem zyd_260 : zy_260.cls ≠ "java/lang/invoke/MethodHandle" ∧ zy_260.cls ≠ "java/lang/invoke/VarHandle" ∧ (parseMethodDescriptor zy_260.desc).map (fun d => d.parameters.length) = some 0 := by decide +kernel
theorem zyd_261 : zy_261.cls ≠ "java/lang/invoke/MethodHandle" ∧ zy_261.cls ≠ "java/lang/invoke/VarHandle" ∧ (parseMethodDescriptor zy_261.desc).map (fun d => d.parameters.length) = some 0 := by decide +kernel
theorem zyd_262 : zy_262.cls ≠ "java/lang/invoke/MethodHandle" ∧ zy_262.cls ≠ "java/lang/invoke/VarHandle" ∧ (parseMethodDescriptor zy_262.desc).map (fun d => d.parameters.length) = some 1 := by decide +kernel
theorem zyd_263 : zy_263.cls ≠ "java/lang/invoke/MethodHandle" ∧ zy_263.cls ≠ "java/lang/invoke/VarHandle" ∧ (parseMethodDescriptor zy_263.desc).map (fun d => d.parameters.length) = some 3 := by decide +kernel
theorem zyd_264 : zy_264.cls ≠ "java/lang/invoke/MethodHandle" ∧ zy_264.cls ≠ "java/lang/invoke/VarHandle" ∧ (parseMethodDescriptor zy_264.desc).map (fun d => d.parameters.length) = some 4 := by decide +kernel
theorem zyd_265 : zy_265.cls ≠ "java/lang/invoke/MethodHandle" ∧ zy_265.cls ≠ "java/lang/invoke/VarHandle" ∧ (parseMethodDescriptor zy_265.desc).map (fun d => d.parameters.length) = some 3 := by decide +kernel
theorem zyd_266 : zy_266.cls ≠ "java/lang/invoke/MethodHandle" ∧ zy_266.cls ≠ "java/lang/invoke/VarHandle" ∧ (parseMethodDescriptor zy_266.desc).map (fun d => d.parameters.length) = some 1 := by decide +kernel
theorem zyd_267 : zy_267.cls ≠ "java/lang/invoke/MethodHandle" ∧ zy_267.cls ≠ "java/lang/invoke/VarHandle" ∧ (parseMethodDescriptor zy_267.desc).map (fun d => d.parameters.length) = some 0 := by decide +kernel
theorem zyd_268 : zy_268.cls ≠ "java/lang/invoke/MethodHandle" ∧ zy_268.cls ≠ "java/lang/invoke/VarHandle" ∧ (parseMethodDescriptor zy_268.desc).map (fun d => d.parameters.length) = some 1 := by decide +kernel
theorem zyd_269 : zy_269.cls ≠ "java/lang/invoke/MethodHandle" ∧ zy_269.cls ≠ "java/lang/invoke/VarHandle" ∧ (parseMethodDescriptor zy_269.desc).map (fun d => d.parameters.length) = some 0 := by decide +kernel
theorem zyd_270 : zy_270.cls ≠ "java/lang/invoke/MethodHandle" ∧ zy_270.cls ≠ "java/lang/invoke/VarHandle" ∧ (parseMethodDescriptor zy_270.desc).map (fun d => d.parameters.length) = some 1 := by decide +kernel
theorem zyd_271 : zy_271.cls ≠ "java/lang/invoke/MethodHandle" ∧ zy_271.cls ≠ "java/lang/invoke/VarHandle" ∧ (parseMethodDescriptor zy_271.desc).map (fun d => d.parameters.length) = some 0 := by decide +kernel
theorem zyd_272 : zy_272.cls ≠ "java/lang/invoke/MethodHandle" ∧ zy_272.cls ≠ "java/lang/invoke/VarHandle" ∧ (parseMethodDescriptor zy_272.desc).map (fun d => d.parameters.length) = some 1 := by decide +kernel
theorem zyd_273 : zy_273.cls ≠ "java/lang/invoke/MethodHandle" ∧ zy_273.cls ≠ "java/lang/invoke/VarHandle" ∧ (parseMethodDescriptor zy_273.desc).map (fun d => d.parameters.length) = some 1 := by decide +kernel
theorem zyd_274 : zy_274.cls ≠ "java/lang/invoke/MethodHandle" ∧ zy_274.cls ≠ "java/lang/invoke/VarHandle" ∧ (parseMethodDescriptor zy_274.desc).map (fun d => d.parameters.length) = some 3 := by decide +kernel
theorem zyd_275 : zy_275.cls ≠ "java/lang/invoke/MethodHandle" ∧ zy_275.cls ≠ "java/lang/invoke/VarHandle" ∧ (parseMethodDescriptor zy_275.desc).map (fun d => d.parameters.length) = some 2 := by decide +kernel
theorem zyd_276 : zy_276.cls ≠ "java/lang/invoke/MethodHandle" ∧ zy_276.cls ≠ "java/lang/invoke/VarHandle" ∧ (parseMethodDescriptor zy_276.desc).map (fun d => d.parameters.length) = some 1 := by decide +kernel
theorem zyd_277 : zy_277.cls ≠ "java/lang/invoke/MethodHandle" ∧ zy_277.cls ≠ "java/lang/invoke/VarHandle" ∧ (parseMethodDescriptor zy_277.desc).map (fun d => d.parameters.length) = some 1 := by decide +kernel
theorem zyd_278 : zy_278.cls ≠ "java/lang/invoke/MethodHandle" ∧ zy_278.cls ≠ "java/lang/invoke/VarHandle" ∧ (parseMethodDescriptor zy_278.desc).map (fun d => d.parameters.length) = some 1 := by decide +kernel
theorem zyd_279 : zy_279.cls ≠ "java/lang/invoke/MethodHandle" ∧ zy_279.cls ≠ "java/lang/invoke/VarHandle" ∧ (parseMethodDescriptor zy_279.desc).map (fun d => d.parameters.length) = some 1 := by decide +kernel
theorem zyd_280 : zy_280.cls ≠ "java/lang/invoke/MethodHandle" ∧ zy_280.cls ≠ "java/lang/invoke/VarHandle" ∧ (parseMethodDescriptor zy_280.desc).map (fun d => d.parameters.length) = some 2 := by decide +kernel
theorem zyd_281 : zy_281.cls ≠ "java/lang/invoke/MethodHandle" ∧ zy_281.cls ≠ "java/lang/invoke/VarHandle" ∧ (parseMethodDescriptor zy_281.desc).map (fun d => d.parameters.length) = some 2 := by decide +kernel
theorem zyd_282 : zy_282.cls ≠ "java/lang/invoke/MethodHandle" ∧ zy_282.cls ≠ "java/lang/invoke/VarHandle" ∧ (parseMethodDescriptor zy_282.desc).map (fun d => d.parameters.length) = some 2 := by decide +kernel
theorem zyd_283 : zy_283.cls ≠ "java/lang/invoke/MethodHandle" ∧ zy_283.cls ≠ "java/lang/invoke/VarHandle" ∧ (parseMethodDescriptor zy_283.desc).map (fun d => d.parameters.length) = some 2 := by decide +kernel
theorem zyd_284 : zy_284.cls ≠ "java/lang/invoke/MethodHandle" ∧ zy_284.cls ≠ "java/lang/invoke/VarHandle" ∧ (parseMethodDescriptor zy_284.desc).map (fun d => d.parameters.length) = some 0 := by decide +kernel
theorem zyd_285 : zy_285.cls ≠ "java/lang/invoke/MethodHandle" ∧ zy_285.cls ≠ "java/lang/invoke/VarHandle" ∧ (parseMethodDescriptor zy_285.desc).map (fun d => d.parameters.length) = some 2 := by decide +kernel
theorem zyd_286 : zy_286.cls ≠ "java/lang/invoke/MethodHandle" ∧ zy_286.cls ≠ "java/lang/invoke/VarHandle" ∧ (parseMethodDescriptor zy_286.desc).map (fun d => d.parameters.length) = some 1 := by decide +kernel
theorem zyd_287 : zy_287.cls ≠ "java/lang/invoke/MethodHandle" ∧ zy_287.cls ≠ "java/lang/invoke/VarHandle" ∧ (parseMethodDescriptor zy_287.desc).map (fun d => d.parameters.length) = some 5 := by decide +kernel
theorem zyd_288 : zy_288.cls ≠ "java/lang/invoke/MethodHandle" ∧ zy_288.cls ≠ "java/lang/invoke/VarHandle" ∧ (parseMethodDescriptor zy_288.desc).map (fun d => d.parameters.length) = some 2 := by decide +kernel
theorem zyd_289 : zy_289.cls ≠ "java/lang/invoke/MethodHandle" ∧ zy_289.cls ≠ "java/lang/invoke/VarHandle" ∧ (parseMethodDescriptor zy_289.desc).map (fun d => d.parameters.length) = some 3 := by decide +kernel
theorem zyd_290 : zy_290.cls ≠ "java/lang/invoke/MethodHandle" ∧ zy_290.cls ≠ "java/lang/invoke/VarHandle" ∧ (parseMethodDescriptor zy_290.desc).map (fun d => d.parameters.length) = some 2 := by decide +kernel
theorem zyd_291 : zy_291.cls ≠ "java/lang/invoke/MethodHandle" ∧ zy_291.cls ≠ "java/lang/invoke/VarHandle" ∧ (parseMethodDescriptor zy_291.desc).map (fun d => d.parameters.length) = some 2 := by decide +kernel
theorem zyd_292 : zy_292.cls ≠ "java/lang/invoke/MethodHandle" ∧ zy_292.cls ≠ "java/lang/invoke/VarHandle" ∧ (parseMethodDescriptor zy_292.desc).map (fun d => d.parameters.length) = some 1 := by decide +kernel
theorem zyd_293 : zy_293.cls ≠ "java/lang/invoke/MethodHandle" ∧ zy_293.cls ≠ "java/lang/invoke/VarHandle" ∧ (parseMethodDescriptor zy_293.desc).map (fun d => d.parameters.length) = some 1 := by decide +kernel
theorem zyd_294 : zy_294.cls ≠ "java/lang/invoke/MethodHandle" ∧ zy_294.cls ≠ "java/lang/invoke/VarHandle" ∧ (parseMethodDescriptor zy_294.desc).map (fun d => d.parameters.length) = some 1 := by decide +kernel
theorem zyd_295 : zy_295.cls ≠ "java/lang/invoke/MethodHandle" ∧ zy_295.cls ≠ "java/lang/invoke/VarHandle" ∧ (parseMethodDescriptor zy_295.desc).map (fun d => d.parameters.length) = some 4 := by decide +kernel
theorem zyd_296 : zy_296.cls ≠ "java/lang/invoke/MethodHandle" ∧ zy_296.cls ≠ "java/lang/invoke/VarHandle" ∧ (parseMethodDescriptor zy_296.desc).map (fun d => d.parameters.length) = some 3 := by decide +kernel
theorem zyd_297 : zy_297.cls ≠ "java/lang/invoke/MethodHandle" ∧ zy_297.cls ≠ "java/lang/invoke/VarHandle" ∧ (parseMethodDescriptor zy_297.desc).map (fun d => d.parameters.length) = some 2 := by decide +kernel
theorem zyd_298 : zy_298.cls ≠ "java/lang/invoke/MethodHandle" ∧ zy_298.cls ≠ "java/lang/invoke/VarHandle" ∧ (parseMethodDescriptor zy_298.desc).map (fun d => d.parameters.length) = some 3 := by decide +kernel
theorem zyd_299 : zy_299.cls ≠ "java/lang/invoke/MethodHandle" ∧ zy_299.cls ≠ "java/lang/invoke/VarHandle" ∧ (parseMethodDescriptor zy_299.desc).map (fun d => d.parameters.length) = some 1 := by decide +kernel
theorem zyd_300 : zy_300.cls ≠ "java/lang/invoke/MethodHandle" ∧ zy_300.cls ≠ "java/lang/invoke/VarHandle" ∧ (parseMethodDescriptor zy_300.desc).map (fun d => d.parameters.length) = some 0 := by decide +kernel
theorem zyd_301 : zy_301.cls ≠ "java/lang/invoke/MethodHandle" ∧ zy_301.cls ≠ "java/lang/invoke/VarHandle" ∧ (parseMethodDescriptor zy_301.desc).map (fun d => d.parameters.length) = some 1 := by decide +kernel
theorem zyd_302 : zy_302.cls ≠ "java/lang/invoke/MethodHandle" ∧ zy_302.cls ≠ "java/lang/invoke/VarHandle" ∧ (parseMethodDescriptor zy_302.desc).map (fun d => d.parameters.length) = some 3 := by decide +kernel
theorem zyd_303 : zy_303.cls ≠ "java/lang/invoke/MethodHandle" ∧ zy_303.cls ≠ "java/lang/invoke/VarHandle" ∧ (parseMethodDescriptor zy_303.desc).map (fun d => d.parameters.length) = some 2 := by decide +kernel
theorem zyd_304 : zy_304.cls ≠ "java/lang/invoke/MethodHandle" ∧ zy_304.cls ≠ "java/lang/invoke/VarHandle" ∧ (parseMethodDescriptor zy_304.desc).map (fun d => d.parameters.length) = some 2 := by decide +kernel
theorem zyd_305 : zy_305.cls ≠ "java/lang/invoke/MethodHandle" ∧ zy_305.cls ≠ "java/lang/invoke/VarHandle" ∧ (parseMethodDescriptor zy_305.desc).map (fun d => d.parameters.length) = some 3 := by decide +kernel
theorem zyd_306 : zy_306.cls ≠ "java/lang/invoke/MethodHandle" ∧ zy_306.cls ≠ "java/lang/invoke/VarHandle" ∧ (parseMethodDescriptor zy_306.desc).map (fun d => d.parameters.length) = some 1 := by decide +kernel
theorem zyd_307 : zy_307.cls ≠ "java/lang/invoke/MethodHandle" ∧ zy_307.cls ≠ "java/lang/invoke/VarHandle" ∧ (parseMethodDescriptor zy_307.desc).map (fun d => d.parameters.length) = some 0 := by decide +kernel
theorem zyd_308 : zy_308.cls ≠ "java/lang/invoke/MethodHandle" ∧ zy_308.cls ≠ "java/lang/invoke/VarHandle" ∧ (parseMethodDescriptor zy_308.desc).map (fun d => d.parameters.length) = some 0 := by decide +kernel
theorem zyd_309 : zy_309.cls ≠ "java/lang/invoke/MethodHandle" ∧ zy_309.cls ≠ "java/lang/invoke/VarHandle" ∧ (parseMethodDescriptor zy_309.desc).map (fun d => d.parameters.length) = some 1 := by decide +kernel
theorem zyd_310 : zy_310.cls ≠ "java/lang/invoke/MethodHandle" ∧ zy_310.cls ≠ "java/lang/invoke/VarHandle" ∧ (parseMethodDescriptor zy_310.desc).map (fun d => d.parameters.length) = some 4 := by decide +kernel
theorem zyd_311 : zy_311.cls ≠ "java/lang/invoke/MethodHandle" ∧ zy_311.cls ≠ "java/lang/invoke/VarHandle" ∧ (parseMethodDescriptor zy_311.desc).map (fun d => d.parameters.length) = some 1 := by decide +kernel
theorem zyd_312 : zy_312.cls ≠ "java/lang/invoke/MethodHandle" ∧ zy_312.cls ≠ "java/lang/invoke/VarHandle" ∧ (parseMethodDescriptor zy_312.desc).map (fun d => d.parameters.length) = some 0 := by decide +kernel
theorem zyd_313 : zy_313.cls ≠ "java/lang/invoke/MethodHandle" ∧ zy_313.cls ≠ "java/lang/invoke/VarHandle" ∧ (parseMethodDescriptor zy_313.desc).map (fun d => d.parameters.length) = some 1 := by decide +kernel
theorem zyd_314 : zy_314.cls ≠ "java/lang/invoke/MethodHandle" ∧ zy_314.cls ≠ "java/lang/invoke/VarHandle" ∧ (parseMethodDescriptor zy_314.desc).map (fun d => d.parameters.length) = some 2 := by decide +kernel
theorem zyd_315 : zy_315.cls ≠ "java/lang/invoke/MethodHandle" ∧ zy_315.cls ≠ "java/lang/invoke/VarHandle" ∧ (parseMethodDescriptor zy_315.desc).map (fun d => d.parameters.length) = some 5 := by decide +kernel
theorem zyd_316 : zy_316.cls ≠ "java/lang/invoke/MethodHandle" ∧ zy_316.cls ≠ "java/lang/invoke/VarHandle" ∧ (parseMethodDescriptor zy_316.desc).map (fun d => d.parameters.length) = some 1 := by decide +kernel
theorem zyd_317 : zy_317.cls ≠ "java/lang/invoke/MethodHandle" ∧ zy_317.cls ≠ "java/lang/invoke/VarHandle" ∧ (parseMethodDescriptor zy_317.desc).map (fun d => d.parameters.length) = some 0 := by decide +kernel
theorem zyd_318 : zy_318.cls ≠ "java/lang/invoke/MethodHandle" ∧ zy_318.cls ≠ "java/lang/invoke/VarHandle" ∧ (parseMethodDescriptor zy_318.desc).map (fun d => d.parameters.length) = some 1 := by decide +kernel
theorem zyd_319 : zy_319.cls ≠ "java/lang/invoke/MethodHandle" ∧ zy_319.cls ≠ "java/lang/invoke/VarHandle" ∧ (parseMethodDescriptor zy_319.desc).map (fun d => d.parameters.length) = some 1 := by decide +kernel
theorem zyd_320 : zy_320.cls ≠ "java/lang/invoke/MethodHandle" ∧ zy_320.cls ≠ "java/lang/invoke/VarHandle" ∧ (parseMethodDescriptor zy_320.desc).map (fun d => d.parameters.length) = some 1 := by decide +kernel
theorem zyd_321 : zy_321.cls ≠ "java/lang/invoke/MethodHandle" ∧ zy_321.cls ≠ "java/lang/invoke/VarHandle" ∧ (parseMethodDescriptor zy_321.desc).map (fun d => d.parameters.length) = some 0 := by decide +kernel
theorem zyd_322 : zy_322.cls ≠ "java/lang/invoke/MethodHandle" ∧ zy_322.cls ≠ "java/lang/invoke/VarHandle" ∧ (parseMethodDescriptor zy_322.desc).map (fun d => d.parameters.length) = some 1 := by decide +kernel
theorem zyd_323 : zy_323.cls ≠ "java/lang/invoke/MethodHandle" ∧ zy_323.cls ≠ "java/lang/invoke/VarHandle" ∧ (parseMethodDescriptor zy_323.desc).map (fun d => d.parameters.length) = some 1 := by decide +kernel
theorem zyd_324 : zy_324.cls ≠ "java/lang/invoke/MethodHandle" ∧ zy_324.cls ≠ "java/lang/invoke/VarHandle" ∧ (parseMethodDescriptor zy_324.desc).map (fun d => d.parameters.length) = some 4 := by decide +kernel
theorem zyd_325 : zy_325.cls ≠ "java/lang/invoke/MethodHandle" ∧ zy_325.cls ≠ "java/lang/invoke/VarHandle" ∧ (parseMethodDescriptor zy_325.desc).map (fun d => d.parameters.length) = some 4 := by decide +kernel
theorem zyd_326 : zy_326.cls ≠ "java/lang/invoke/MethodHandle" ∧ zy_326.cls ≠ "java/lang/invoke/VarHandle" ∧ (parseMethodDescriptor zy_326.desc).map (fun d => d.parameters.length) = some 5 := by decide +kernel
theorem zyd_327 : zy_327.cls ≠ "java/lang/invoke/MethodHandle" ∧ zy_327.cls ≠ "java/lang/invoke/VarHandle" ∧ (parseMethodDescriptor zy_327.desc).map (fun d => d.parameters.length) = some 4 := by decide +kernel
theorem zyd_328 : zy_328.cls ≠ "java/lang/invoke/MethodHandle" ∧ zy_328.cls ≠ "java/lang/invoke/VarHandle" ∧ (parseMethodDescriptor zy_328.desc).map (fun d => d.parameters.length) = some 2 := by decide +kernel
theorem zyd_329 : zy_329.cls ≠ "java/lang/invoke/MethodHandle" ∧ zy_329.cls ≠ "java/lang/invoke/VarHandle" ∧ (parseMethodDescriptor zy_329.desc).map (fun d => d.parameters.length) = some 2 := by decide +kernel
theorem zyd_330 : zy_330.cls ≠ "java/lang/invoke/MethodHandle" ∧ zy_330.cls ≠ "java/lang/invoke/VarHandle" ∧ (parseMethodDescriptor zy_330.desc).map (fun d => d.parameters.length) = some 1 := by decide +kernel
theorem zyd_331 : zy_331.cls ≠ "java/lang/invoke/MethodHandle" ∧ zy_331.cls ≠ "java/lang/invoke/VarHandle" ∧ (parseMethodDescriptor zy_331.desc).map (fun d => d.parameters.length) = some 2 := by decide +kernel
theorem zyd_332 : zy_332.cls ≠ "java/lang/invoke/MethodHandle" ∧ zy_332.cls ≠ "java/lang/invoke/VarHandle" ∧ (parseMethodDescriptor zy_332.desc).map (fun d => d.parameters.length) = some 0 := by decide +kernel
theorem zyd_333 : zy_333.cls ≠ "java/lang/invoke/MethodHandle" ∧ zy_333.cls ≠ "java/lang/invoke/VarHandle" ∧ (parseMethodDescriptor zy_333.desc).map (fun d => d.parameters.length) = some 2 := by decide +kernel
theorem zyd_334 : zy_334.cls ≠ "java/lang/invoke/MethodHandle" ∧ zy_334.cls ≠ "java/lang/invoke/VarHandle" ∧ (parseMethodDescriptor zy_334.desc).map (fun d => d.parameters.length) = some 2 := by decide +kernel
theorem zyd_335 : zy_335.cls ≠ "java/lang/invoke/MethodHandle" ∧ zy_335.cls ≠ "java/lang/invoke/VarHandle" ∧ (parseMethodDescriptor zy_335.desc).map (fun d => d.parameters.length) = some 1 := by decide +kernel
theorem zyd_336 : zy_336.cls ≠ "java/lang/invoke/MethodHandle" ∧ zy_336.cls ≠ "java/lang/invoke/VarHandle" ∧ (parseMethodDescriptor zy_336.desc).map (fun d => d.parameters.length) = some 1 := by decide +kernel
theorem zyd_337 : zy_337.cls ≠ "java/lang/invoke/MethodHandle" ∧ zy_337.cls ≠ "java/lang/invoke/VarHandle" ∧ (parseMethodDescriptor zy_337.desc).map (fun d => d.parameters.length) = some 1 := by decide +kernel
theorem zyd_338 : zy_338.cls ≠ "java/lang/invoke/MethodHandle" ∧ zy_338.cls ≠ "java/lang/invoke/VarHandle" ∧ (parseMethodDescriptor zy_338.desc).map (fun d => d.parameters.length) = some 1 := by decide +kernel
theorem zyd_339 : zy_339.cls ≠ "java/lang/invoke/MethodHandle" ∧ zy_339.cls ≠ "java/lang/invoke/VarHandle" ∧ (parseMethodDescriptor zy_339.desc).map (fun d => d.parameters.length) = some 1 := by decide +kernel
theorem zyd_340 : zy_340.cls ≠ "java/lang/invoke/MethodHandle" ∧ zy_340.cls ≠ "java/lang/invoke/VarHandle" ∧ (parseMethodDescriptor zy_340.desc).map (fun d => d.parameters.length) = some 2 := by decide +kernel
theorem zyd_341 : zy_341.cls ≠ "java/lang/invoke/MethodHandle" ∧ zy_341.cls ≠ "java/lang/invoke/VarHandle" ∧ (parseMethodDescriptor zy_341.desc).map (fun d => d.parameters.length) = some 0 := by decide +kernel
theorem zyd_342 : zy_342.cls ≠ "java/lang/invoke/MethodHandle" ∧ zy_342.cls ≠ "java/lang/invoke/VarHandle" ∧ (parseMethodDescriptor zy_342.desc).map (fun d => d.parameters.length) = some 1 := by decide +kernel
theorem zyd_343 : zy_343.cls ≠ "java/lang/invoke/MethodHandle" ∧ zy_343.cls ≠ "java/lang/invoke/VarHandle" ∧ (parseMethodDescriptor zy_343.desc).map (fun d => d.parameters.length) = some 1 := by decide +kernel
theorem zyd_344 : zy_344.cls ≠ "java/lang/invoke/MethodHandle" ∧ zy_344.cls ≠ "java/lang/invoke/VarHandle" ∧ (parseMethodDescriptor zy_344.desc).map (fun d => d.parameters.length) = some 1 := by decide +kernel
theorem zyd_345 : zy_345.cls ≠ "java/lang/invoke/MethodHandle" ∧ zy_345.cls ≠ "java/lang/invoke/VarHandle" ∧ (parseMethodDescriptor zy_345.desc).map (fun d => d.parameters.length) = some 1 := by decide +kernel
theorem zyd_346 : zy_346.cls ≠ "java/lang/invoke/MethodHandle" ∧ zy_346.cls ≠ "java/lang/invoke/VarHandle" ∧ (parseMethodDescriptor zy_346.desc).map (fun d => d.parameters.length) = some 2 := by decide +kernel
theorem zyd_347 : zy_347.cls ≠ "java/lang/invoke/MethodHandle" ∧ zy_347.cls ≠ "java/lang/invoke/VarHandle" ∧ (parseMethodDescriptor zy_347.desc).map (fun d => d.parameters.length) = some 2 := by decide +kernel
theorem zyd_348 : zy_348.cls ≠ "java/lang/invoke/MethodHandle" ∧ zy_348.cls ≠ "java/lang/invoke/VarHandle" ∧ (parseMethodDescriptor zy_348.desc).map (fun d => d.parameters.length) = some 2 := by decide +kernel
theorem zyd_349 : zy_349.cls ≠ "java/lang/invoke/MethodHandle" ∧ zy_349.cls ≠ "java/lang/invoke/VarHandle" ∧ (parseMethodDescriptor zy_349.desc).map (fun d => d.parameters.length) = some 4 := by decide +kernel
theorem zyd_350 : zy_350.cls ≠ "java/lang/invoke/MethodHandle" ∧ zy_350.cls ≠ "java/lang/invoke/VarHandle" ∧ (parseMethodDescriptor zy_350.desc).map (fun d => d.parameters.length) = some 2 := by decide +kernel
theorem zyd_351 : zy_351.cls ≠ "java/lang/invoke/MethodHandle" ∧ zy_351.cls ≠ "java/lang/invoke/VarHandle" ∧ (parseMethodDescriptor zy_351.desc).map (fun d => d.parameters.length) = some 1 := by decide +kernel
theorem zyd_352 : zy_352.cls ≠ "java/lang/invoke/MethodHandle" ∧ zy_352.cls ≠ "java/lang/invoke/VarHandle" ∧ (parseMethodDescriptor zy_352.desc).map (fun d => d.parameters.length) = some 1 := by decide +kernel
theorem zyd_353 : zy_353.cls ≠ "java/lang/invoke/MethodHandle" ∧ zy_353.cls ≠ "java/lang/invoke/VarHandle" ∧ (parseMethodDescriptor zy_353.desc).map (fun d => d.parameters.length) = some 3 := by decide +kernel
theorem zyd_354 : zy_354.cls ≠ "java/lang/invoke/MethodHandle" ∧ zy_354.cls ≠ "java/lang/invoke/VarHandle" ∧ (parseMethodDescriptor zy_354.desc).map (fun d => d.parameters.length) = some 1 := by decide +kernel
theorem zyd_355 : zy_355.cls ≠ "java/lang/invoke/MethodHandle" ∧ zy_355.cls ≠ "java/lang/invoke/VarHandle" ∧ (parseMethodDescriptor zy_355.desc).map (fun d => d.parameters.length) = some 3 := by decide +kernel
theorem zyd_356 : zy_356.cls ≠ "java/lang/invoke/MethodHandle" ∧ zy_356.cls ≠ "java/lang/invoke/VarHandle" ∧ (parseMethodDescriptor zy_356.desc).map (fun d => d.parameters.length) = some 1 := by decide +kernel
theorem zyd_357 : zy_357.cls ≠ "java/lang/invoke/MethodHandle" ∧ zy_357.cls ≠ "java/lang/invoke/VarHandle" ∧ (parseMethodDescriptor zy_357.desc).map (fun d => d.parameters.length) = some 0 := by decide +kernel
theorem zyd_358 : zy_358.cls ≠ "java/lang/invoke/MethodHandle" ∧ zy_358.cls ≠ "java/lang/invoke/VarHandle" ∧ (parseMethodDescriptor zy_358.desc).map (fun d => d.parameters.length) = some 1 := by decide +kernel
theorem zyd_359 : zy_359.cls ≠ "java/lang/invoke/MethodHandle" ∧ zy_359.cls ≠ "java/lang/invoke/VarHandle" ∧ (parseMethodDescriptor zy_359.desc).map (fun d => d.parameters.length) = some 0 := by decide +kernel
theorem zyd_360 : zy_360.cls ≠ "java/lang/invoke/MethodHandle" ∧ zy_360.cls ≠ "java/lang/invoke/VarHandle" ∧ (parseMethodDescriptor zy_360.desc).map (fun d => d.parameters.length) = some 0 := by decide +kernel
theorem zyd_361 : zy_361.cls ≠ "java/lang/invoke/MethodHandle" ∧ zy_361.cls ≠ "java/lang/invoke/VarHandle" ∧ (parseMethodDescriptor zy_361.desc).map (fun d => d.parameters.length) = some 1 := by decide +kernel
theorem zyd_362 : zy_362.cls ≠ "java/lang/invoke/MethodHandle" ∧ zy_362.cls ≠ "java/lang/invoke/VarHandle" ∧ (parseMethodDescriptor zy_362.desc).map (fun d => d.parameters.length) = some 1 := by decide +kernel
theorem zyd_363 : zy_363.cls ≠ "java/lang/invoke/MethodHandle" ∧ zy_363.cls ≠ "java/lang/invoke/VarHandle" ∧ (parseMethodDescriptor zy_363.desc).map (fun d => d.parameters.length) = some 1 := by decide +kernel
theorem zyd_364 : zy_364.cls ≠ "java/lang/invoke/MethodHandle" ∧ zy_364.cls ≠ "java/lang/invoke/VarHandle" ∧ (parseMethodDescriptor zy_364.desc).map (fun d => d.parameters.length) = some 3 := by decide +kernel
theorem zyd_365 : zy_365.cls ≠ "java/lang/invoke/MethodHandle" ∧ zy_365.cls ≠ "java/lang/invoke/VarHandle" ∧ (parseMethodDescriptor zy_365.desc).map (fun d => d.parameters.length) = some 2 := by decide +kernel
theorem zyd_366 : zy_366.cls ≠ "java/lang/invoke/MethodHandle" ∧ zy_366.cls ≠ "java/lang/invoke/VarHandle" ∧ (parseMethodDescriptor zy_366.desc).map (fun d => d.parameters.length) = some 1 := by decide +kernel
theorem zyd_367 : zy_367.cls ≠ "java/lang/invoke/MethodHandle" ∧ zy_367.cls ≠ "java/lang/invoke/VarHandle" ∧ (parseMethodDescriptor zy_367.desc).map (fun d => d.parameters.length) = some 0 := by decide +kernel
theorem zyd_368 : zy_368.cls ≠ "java/lang/invoke/MethodHandle" ∧ zy_368.cls ≠ "java/lang/invoke/VarHandle" ∧ (parseMethodDescriptor zy_368.desc).map (fun d => d.parameters.length) = some 0 := by decide +kernel
theorem zyd_369 : zy_369.cls ≠ "java/lang/invoke/MethodHandle" ∧ zy_369.cls ≠ "java/lang/invoke/VarHandle" ∧ (parseMethodDescriptor zy_369.desc).map (fun d => d.parameters.length) = some 2 := by decide +kernel
theorem zyd_370 : zy_370.cls ≠ "java/lang/invoke/MethodHandle" ∧ zy_370.cls ≠ "java/lang/invoke/VarHandle" ∧ (parseMethodDescriptor zy_370.desc).map (fun d => d.parameters.length) = some 1 := by decide +kernel
theorem zyd_371 : zy_371.cls ≠ "java/lang/invoke/MethodHandle" ∧ zy_371.cls ≠ "java/lang/invoke/VarHandle" ∧ (parseMethodDescriptor zy_371.desc).map (fun d => d.parameters.length) = some 3 := by decide +kernel
theorem zyd_372 : zy_372.cls ≠ "java/lang/invoke/MethodHandle" ∧ zy_372.cls ≠ "java/lang/invoke/VarHandle" ∧ (parseMethodDescriptor zy_372.desc).map (fun d => d.parameters.length) = some 2 := by decide +kernel
theorem zyd_373 : zy_373.cls ≠ "java/lang/invoke/MethodHandle" ∧ zy_373.cls ≠ "java/lang/invoke/VarHandle" ∧ (parseMethodDescriptor zy_373.desc).map (fun d => d.parameters.length) = some 1 := by decide +kernel
theorem zyd_374 : zy_374.cls ≠ "java/lang/invoke/MethodHandle" ∧ zy_374.cls ≠ "java/lang/invoke/VarHandle" ∧ (parseMethodDescriptor zy_374.desc).map (fun d => d.parameters.length) = some 1 := by decide +kernel
theorem zyd_375 : zy_375.cls ≠ "java/lang/invoke/MethodHandle" ∧ zy_375.cls ≠ "java/lang/invoke/VarHandle" ∧ (parseMethodDescriptor zy_375.desc).map (fun d => d.parameters.length) = some 2 := by decide +kernel
theorem zyd_376 : zy_376.cls ≠ "java/lang/invoke/MethodHandle" ∧ zy_376.cls ≠ "java/lang/invoke/VarHandle" ∧ (parseMethodDescriptor zy_376.desc).map (fun d => d.parameters.length) = some 0 := by decide +kernel
theorem zyd_377 : zy_377.cls ≠ "java/lang/invoke/MethodHandle" ∧ zy_377.cls ≠ "java/lang/invoke/VarHandle" ∧ (parseMethodDescriptor zy_377.desc).map (fun d => d.parameters.length) = some 3 := by decide +kernel
theorem zyd_378 : zy_378.cls ≠ "java/lang/invoke/MethodHandle" ∧ zy_378.cls ≠ "java/lang/invoke/VarHandle" ∧ (parseMethodDescriptor zy_378.desc).map (fun d => d.parameters.length) = some 2 := by decide +kernel
theorem zyd_379 : zy_379.cls ≠ "java/lang/invoke/MethodHandle" ∧ zy_379.cls ≠ "java/lang/invoke/VarHandle" ∧ (parseMethodDescriptor zy_379.desc).map (fun d => d.parameters.length) = some 2 := by decide +kernel
theorem zyd_380 : zy_380.cls ≠ "java/lang/invoke/MethodHandle" ∧ zy_380.cls ≠ "java/lang/invoke/VarHandle" ∧ (parseMethodDescriptor zy_380.desc).map (fun d => d.parameters.length) = some 1 := by decide +kernel
theorem zyd_381 : zy_381.cls ≠ "java/lang/invoke/MethodHandle" ∧ zy_381.cls ≠ "java/lang/invoke/VarHandle" ∧ (parseMethodDescriptor zy_381.desc).map (fun d => d.parameters.length) = some 0 := by decide +kernel
theorem zyd_382 : zy_382.cls ≠ "java/lang/invoke/MethodHandle" ∧ zy_382.cls ≠ "java/lang/invoke/VarHandle" ∧ (parseMethodDescriptor zy_382.desc).map (fun d => d.parameters.length) = some 3 := by decide +kernel
theorem zyd_383 : zy_383.cls ≠ "java/lang/invoke/MethodHandle" ∧ zy_383.cls ≠ "java/lang/invoke/VarHandle" ∧ (parseMethodDescriptor zy_383.desc).map (fun d => d.parameters.length) = some 1 := by decide +kernel
theorem zyd_384 : zy_384.cls ≠ "java/lang/invoke/MethodHandle" ∧ zy_384.cls ≠ "java/lang/invoke/VarHandle" ∧ (parseMethodDescriptor zy_384.desc).map (fun d => d.parameters.length) = some 2 := by decide +kernel
theorem zyd_385 : zy_385.cls ≠ "java/lang/invoke/MethodHandle" ∧ zy_385.cls ≠ "java/lang/invoke/VarHandle" ∧ (parseMethodDescriptor zy_385.desc).map (fun d => d.parameters.length) = some 0 := by decide +kernel
theorem zyd_386 : zy_386.cls ≠ "java/lang/invoke/MethodHandle" ∧ zy_386.cls ≠ "java/lang/invoke/VarHandle" ∧ (parseMethodDescriptor zy_386.desc).map (fun d => d.parameters.length) = some 3 := by decide +kernel
theorem zyd_387 : zy_387.cls ≠ "java/lang/invoke/MethodHandle" ∧ zy_387.cls ≠ "java/lang/invoke/VarHandle" ∧ (parseMethodDescriptor zy_387.desc).map (fun d => d.parameters.length) = some 2 := by decide +kernel
theorem zyd_388 : zy_388.cls ≠ "java/lang/invoke/MethodHandle" ∧ zy_388.cls ≠ "java/lang/invoke/VarHandle" ∧ (parseMethodDescriptor zy_388.desc).map (fun d => d.parameters.length) = some 1 := by decide +kernel
theorem zyd_389 : zy_389.cls ≠ "java/lang/invoke/MethodHandle" ∧ zy_389.cls ≠ "java/lang/invoke/VarHandle" ∧ (parseMethodDescriptor zy_389.desc).map (fun d => d.parameters.length) = some 0 := by decide +kernel
theorem zyd_390 : zy_390.cls ≠ "java/lang/invoke/MethodHandle" ∧ zy_390.cls ≠ "java/lang/invoke/VarHandle" ∧ (parseMethodDescriptor zy_390.desc).map (fun d => d.parameters.length) = some 0 := by decide +kernel
theorem zyd_391 : zy_391.cls ≠ "java/lang/invoke/MethodHandle" ∧ zy_391.cls ≠ "java/lang/invoke/VarHandle" ∧ (parseMethodDescriptor zy_391.desc).map (fun d => d.parameters.length) = some 1 := by decide +kernel
theorem zyd_392 : zy_392.cls ≠ "java/lang/invoke/MethodHandle" ∧ zy_392.cls ≠ "java/lang/invoke/VarHandle" ∧ (parseMethodDescriptor zy_392.desc).map (fun d => d.parameters.length) = some 1 := by decide +kernel
theorem zyd_393 : zy_393.cls ≠ "java/lang/invoke/MethodHandle" ∧ zy_393.cls ≠ "java/lang/invoke/VarHandle" ∧ (parseMethodDescriptor zy_393.desc).map (fun d => d.parameters.length) = some 4 := by decide +kernel
theorem zyd_394 : zy_394.cls ≠ "java/lang/invoke/MethodHandle" ∧ zy_394.cls ≠ "java/lang/invoke/VarHandle" ∧ (parseMethodDescriptor zy_394.desc).map (fun d => d.parameters.length) = some 3 := by decide +kernel
theorem zyd_395 : zy_395.cls ≠ "java/lang/invoke/MethodHandle" ∧ zy_395.cls ≠ "java/lang/invoke/VarHandle" ∧ (parseMethodDescriptor zy_395.desc).map (fun d => d.parameters.length) = some 1 := by decide +kernel
theorem zyd_396 : zy_396.cls ≠ "java/lang/invoke/MethodHandle" ∧ zy_396.cls ≠ "java/lang/invoke/VarHandle" ∧ (parseMethodDescriptor zy_396.desc).map (fun d => d.parameters.length) = some 1 := by decide +kernel
theorem zyd_397 : zy_397.cls ≠ "java/lang/invoke/MethodHandle" ∧ zy_397.cls ≠ "java/lang/invoke/VarHandle" ∧ (parseMethodDescriptor zy_397.desc).map (fun d => d.parameters.length) = some 4 := by decide +kernel
theorem zyd_398 : zy_398.cls ≠ "java/lang/invoke/MethodHandle" ∧ zy_398.cls ≠ "java/lang/invoke/VarHandle" ∧ (parseMethodDescriptor zy_398.desc).map (fun d => d.parameters.length) = some 1 := by decide +kernel
theorem zyd_399 : zy_399.cls ≠ "java/lang/invoke/MethodHandle" ∧ zy_399.cls ≠ "java/lang/invoke/VarHandle" ∧ (parseMethodDescriptor zy_399.desc).map (fun d => d.parameters.length) = some 0 := by decide +kernel
theorem zyd_400 : zy_400.cls ≠ "java/lang/invoke/MethodHandle" ∧ zy_400.cls ≠ "java/lang/invoke/VarHandle" ∧ (parseMethodDescriptor zy_400.desc).map (fun d => d.parameters.length) = some 3 := by decide +kernel
theorem zyd_401 : zy_401.cls ≠ "java/lang/invoke/MethodHandle" ∧ zy_401.cls ≠ "java/lang/invoke/VarHandle" ∧ (parseMethodDescriptor zy_401.desc).map (fun d => d.parameters.length) = some 3 := by decide +kernel
theorem zyd_402 : zy_402.cls ≠ "java/lang/invoke/MethodHandle" ∧ zy_402.cls ≠ "java/lang/invoke/VarHandle" ∧ (parseMethodDescriptor zy_402.desc).map (fun d => d.parameters.length) = some 2 := by decide +kernel
theorem zyd_403 : zy_403.cls ≠ "java/lang/invoke/MethodHandle" ∧ zy_403.cls ≠ "java/lang/invoke/VarHandle" ∧ (parseMethodDescriptor zy_403.desc).map (fun d => d.parameters.length) = some 3 := by decide +kernel
theorem zyd_404 : zy_404.cls ≠ "java/lang/invoke/MethodHandle" ∧ zy_404.cls ≠ "java/lang/invoke/VarHandle" ∧ (parseMethodDescriptor zy_404.desc).map (fun d => d.parameters.length) = some 2 := by decide +kernel
theorem zyd_405 : zy_405.cls ≠ "java/lang/invoke/MethodHandle" ∧ zy_405.cls ≠ "java/lang/invoke/VarHandle" ∧ (parseMethodDescriptor zy_405.desc).map (fun d => d.parameters.length) = some 3 := by decide +kernel
theorem zyd_406 : zy_406.cls ≠ "java/lang/invoke/MethodHandle" ∧ zy_406.cls ≠ "java/lang/invoke/VarHandle" ∧ (parseMethodDescriptor zy_406.desc).map (fun d => d.parameters.length) = some 3 := by decide +kernel
theorem zyd_407 : zy_407.cls ≠ "java/lang/invoke/MethodHandle" ∧ zy_407.cls ≠ "java/lang/invoke/VarHandle" ∧ (parseMethodDescriptor zy_407.desc).map (fun d => d.parameters.length) = some 2 := by decide +kernel
theorem zyd_408 : zy_408.cls ≠ "java/lang/invoke/MethodHandle" ∧ zy_408.cls ≠ "java/lang/invoke/VarHandle" ∧ (parseMethodDescriptor zy_408.desc).map (fun d => d.parameters.length) = some 0 := by decide +kernel
theorem zyd_409 : zy_409.cls ≠ "java/lang/invoke/MethodHandle" ∧ zy_409.cls ≠ "java/lang/invoke/VarHandle" ∧ (parseMethodDescriptor zy_409.desc).map (fun d => d.parameters.length) = some 3 := by decide +kernel
theorem zyd_410 : zy_410.cls ≠ "java/lang/invoke/MethodHandle" ∧ zy_410.cls ≠ "java/lang/invoke/VarHandle" ∧ (parseMethodDescriptor zy_410.desc).map (fun d => d.parameters.length) = some 3 := by decide +kernel
theorem zyd_411 : zy_411.cls ≠ "java/lang/invoke/MethodHandle" ∧ zy_411.cls ≠ "java/lang/invoke/VarHandle" ∧ (parseMethodDescriptor zy_411.desc).map (fun d => d.parameters.length) = some 4 := by decide +kernel
theorem zyd_412 : zy_412.cls ≠ "java/lang/invoke/MethodHandle" ∧ zy_412.cls ≠ "java/lang/invoke/VarHandle" ∧ (parseMethodDescriptor zy_412.desc).map (fun d => d.parameters.length) = some 1 := by decide +kernel
theorem zyd_413 : zy_413.cls ≠ "java/lang/invoke/MethodHandle" ∧ zy_413.cls ≠ "java/lang/invoke/VarHandle" ∧ (parseMethodDescriptor zy_413.desc).map (fun d => d.parameters.length) = some 0 := by decide +kernel
theorem zyd_414 : zy_414.cls ≠ "java/lang/invoke/MethodHandle" ∧ zy_414.cls ≠ "java/lang/invoke/VarHandle" ∧ (parseMethodDescriptor zy_414.desc).map (fun d => d.parameters.length) = some 3 := by decide +kernel
theorem zyd_415 : zy_415.cls ≠ "java/lang/invoke/MethodHandle" ∧ zy_415.cls ≠ "java/lang/invoke/VarHandle" ∧ (parseMethodDescriptor zy_415.desc).map (fun d => d.parameters.length) = some 3 := by decide +kernel
theorem zyd_416 : zy_416.cls ≠ "java/lang/invoke/MethodHandle" ∧ zy_416.cls ≠ "java/lang/invoke/VarHandle" ∧ (parseMethodDescriptor zy_416.desc).map (fun d => d.parameters.length) = some 0 := by decide +kernel
theorem zyd_417 : zy_417.cls ≠ "java/lang/invoke/MethodHandle" ∧ zy_417.cls ≠ "java/lang/invoke/VarHandle" ∧ (parseMethodDescriptor zy_417.desc).map (fun d => d.parameters.length) = some 2 := by decide +kernel
theorem zyd_418 : zy_418.cls ≠ "java/lang/invoke/MethodHandle" ∧ zy_418.cls ≠ "java/lang/invoke/VarHandle" ∧ (parseMethodDescriptor zy_418.desc).map (fun d => d.parameters.length) = some 1 := by decide +kernel
theorem zyd_419 : zy_419.cls ≠ "java/lang/invoke/MethodHandle" ∧ zy_419.cls ≠ "java/lang/invoke/VarHandle" ∧ (parseMethodDescriptor zy_419.desc).map (fun d => d.parameters.length) = some 3 := by decide +kernel
theorem zyd_420 : zy_420.cls ≠ "java/lang/invoke/MethodHandle" ∧ zy_420.cls ≠ "java/lang/invoke/VarHandle" ∧ (parseMethodDescriptor zy_420.desc).map (fun d => d.parameters.length) = some 4 := by decide +kernel
theorem zyd_421 : zy_421.cls ≠ "java/lang/invoke/MethodHandle" ∧ zy_421.cls ≠ "java/lang/invoke/VarHandle" ∧ (parseMethodDescriptor zy_421.desc).map (fun d => d.parameters.length) = some 1 := by decide +kernel
theorem zyd_422 : zy_422.cls ≠ "java/lang/invoke/MethodHandle" ∧ zy_422.cls ≠ "java/lang/invoke/VarHandle" ∧ (parseMethodDescriptor zy_422.desc).map (fun d => d.parameters.length) = some 0 := by decide +kernel
theorem zyd_423 : zy_423.cls ≠ "java/lang/invoke/MethodHandle" ∧ zy_423.cls ≠ "java/lang/invoke/VarHandle" ∧ (parseMethodDescriptor zy_423.desc).map (fun d => d.parameters.length) = some 3 := by decide +kernel
theorem zyd_424 : zy_424.cls ≠ "java/lang/invoke/MethodHandle" ∧ zy_424.cls ≠ "java/lang/invoke/VarHandle" ∧ (parseMethodDescriptor zy_424.desc).map (fun d => d.parameters.length) = some 1 := by decide +kernel
theorem zyd_425 : zy_425.cls ≠ "java/lang/invoke/MethodHandle" ∧ zy_425.cls ≠ "java/lang/invoke/VarHandle" ∧ (parseMethodDescriptor zy_425.desc).map (fun d => d.parameters.length) = some 1 := by decide +kernel
theorem zyd_426 : zy_426.cls ≠ "java/lang/invoke/MethodHandle" ∧ zy_426.cls ≠ "java/lang/invoke/VarHandle" ∧ (parseMethodDescriptor zy_426.desc).map (fun d => d.parameters.length) = some 1 := by decide +kernel
theorem zyd_427 : zy_427.cls ≠ "java/lang/invoke/MethodHandle" ∧ zy_427.cls ≠ "java/lang/invoke/VarHandle" ∧ (parseMethodDescriptor zy_427.desc).map (fun d => d.parameters.length) = some 0 := by decide +kernel
theorem zyd_428 : zy_428.cls ≠ "java/lang/invoke/MethodHandle" ∧ zy_428.cls ≠ "java/lang/invoke/VarHandle" ∧ (parseMethodDescriptor zy_428.desc).map (fun d => d.parameters.length) = some 0 := by decide +kernel
theorem zyd_429 : zy_429.cls ≠ "java/lang/invoke/MethodHandle" ∧ zy_429.cls ≠ "java/lang/invoke/VarHandle" ∧ (parseMethodDescriptor zy_429.desc).map (fun d => d.parameters.length) = some 1 := by decide +kernel
theorem zyd_430 : zy_430.cls ≠ "java/lang/invoke/MethodHandle" ∧ zy_430.cls ≠ "java/lang/invoke/VarHandle" ∧ (parseMethodDescriptor zy_430.desc).map (fun d => d.parameters.length) = some 0 := by decide +kernel
theorem zyd_431 : zy_431.cls ≠ "java/lang/invoke/MethodHandle" ∧ zy_431.cls ≠ "java/lang/invoke/VarHandle" ∧ (parseMethodDescriptor zy_431.desc).map (fun d => d.parameters.length) = some 1 := by decide +kernel
theorem zyd_432 : zy_432.cls ≠ "java/lang/invoke/MethodHandle" ∧ zy_432.cls ≠ "java/lang/invoke/VarHandle" ∧ (parseMethodDescriptor zy_432.desc).map (fun d => d.parameters.length) = some 1 := by decide +kernel
theorem zyd_433 : zy_433.cls ≠ "java/lang/invoke/MethodHandle" ∧ zy_433.cls ≠ "java/lang/invoke/VarHandle" ∧ (parseMethodDescriptor zy_433.desc).map (fun d => d.parameters.length) = some 1 := by decide +kernel
theorem zyd_434 : zy_434.cls ≠ "java/lang/invoke/MethodHandle" ∧ zy_434.cls ≠ "java/lang/invoke/VarHandle" ∧ (parseMethodDescriptor zy_434.desc).map (fun d => d.parameters.length) = some 1 := by decide +kernel
theorem zyd_435 : zy_435.cls ≠ "java/lang/invoke/MethodHandle" ∧ zy_435.cls ≠ "java/lang/invoke/VarHandle" ∧ (parseMethodDescriptor zy_435.desc).map (fun d => d.parameters.length) = some 1 := by decide +kernel
theorem zyd_436 : zy_436.cls ≠ "java/lang/invoke/MethodHandle" ∧ zy_436.cls ≠ "java/lang/invoke/VarHandle" ∧ (parseMethodDescriptor zy_436.desc).map (fun d => d.parameters.length) = some 4 := by decide +kernel
theorem zyd_437 : zy_437.cls ≠ "java/lang/invoke/MethodHandle" ∧ zy_437.cls ≠ "java/lang/invoke/VarHandle" ∧ (parseMethodDescriptor zy_437.desc).map (fun d => d.parameters.length) = some 3 := by decide +kernel
theorem zyd_438 : zy_438.cls ≠ "java/lang/invoke/MethodHandle" ∧ zy_438.cls ≠ "java/lang/invoke/VarHandle" ∧ (parseMethodDescriptor zy_438.desc).map (fun d => d.parameters.length) = some 2 := by decide +kernel
theorem zyd_439 : zy_439.cls ≠ "java/lang/invoke/MethodHandle" ∧ zy_439.cls ≠ "java/lang/invoke/VarHandle" ∧ (parseMethodDescriptor zy_439.desc).map (fun d => d.parameters.length) = some 2 := by decide +kernel
theorem zyd_440 : zy_440.cls ≠ "java/lang/invoke/MethodHandle" ∧ zy_440.cls ≠ "java/lang/invoke/VarHandle" ∧ (parseMethodDescriptor zy_440.desc).map (fun d => d.parameters.length) = some 2 := by decide +kernel
theorem zyd_441 : zy_441.cls ≠ "java/lang/invoke/MethodHandle" ∧ zy_441.cls ≠ "java/lang/invoke/VarHandle" ∧ (parseMethodDescriptor zy_441.desc).map (fun d => d.parameters.length) = some 2 := by decide +kernel
theorem zyd_442 : zy_442.cls ≠ "java/lang/invoke/MethodHandle" ∧ zy_442.cls ≠ "java/lang/invoke/VarHandle" ∧ (parseMethodDescriptor zy_442.desc).map (fun d => d.parameters.length) = some 1 := by decide +kernel
theorem zyd_443 : zy_443.cls ≠ "java/lang/invoke/MethodHandle" ∧ zy_443.cls ≠ "java/lang/invoke/VarHandle" ∧ (parseMethodDescriptor zy_443.desc).map (fun d => d.parameters.length) = some 1 := by decide +kernel
theorem zyd_444 : zy_444.cls ≠ "java/lang/invoke/MethodHandle" ∧ zy_444.cls ≠ "java/lang/invoke/VarHandle" ∧ (parseMethodDescriptor zy_444.desc).map (fun d => d.parameters.length) = some 2 := by decide +kernel
theorem zyd_445 : zy_445.cls ≠ "java/lang/invoke/MethodHandle" ∧ zy_445.cls ≠ "java/lang/invoke/VarHandle" ∧ (parseMethodDescriptor zy_445.desc).map (fun d => d.parameters.length) = some 1 := by decide +kernel
theorem zyd_446 : zy_446.cls ≠ "java/lang/invoke/MethodHandle" ∧ zy_446.cls ≠ "java/lang/invoke/VarHandle" ∧ (parseMethodDescriptor zy_446.desc).map (fun d => d.parameters.length) = some 1 := by decide +kernel
theorem zyd_447 : zy_447.cls ≠ "java/lang/invoke/MethodHandle" ∧ zy_447.cls ≠ "java/lang/invoke/VarHandle" ∧ (parseMethodDescriptor zy_447.desc).map (fun d => d.parameters.length) = some 1 := by decide +kernel
theorem zyd_448 : zy_448.cls ≠ "java/lang/invoke/MethodHandle" ∧ zy_448.cls ≠ "java/lang/invoke/VarHandle" ∧ (parseMethodDescriptor zy_448.desc).map (fun d => d.parameters.length) = some 3 := by decide +kernel
theorem zyd_449 : zy_449.cls ≠ "java/lang/invoke/MethodHandle" ∧ zy_449.cls ≠ "java/lang/invoke/VarHandle" ∧ (parseMethodDescriptor zy_449.desc).map (fun d => d.parameters.length) = some 1 := by decide +kernel
theorem zyd_450 : zy_450.cls ≠ "java/lang/invoke/MethodHandle" ∧ zy_450.cls ≠ "java/lang/invoke/VarHandle" ∧ (parseMethodDescriptor zy_450.desc).map (fun d => d.parameters.length) = some 0 := by decide +kernel
theorem zyd_451 : zy_451.cls ≠ "java/lang/invoke/MethodHandle" ∧ zy_451.cls ≠ "java/lang/invoke/VarHandle" ∧ (parseMethodDescriptor zy_451.desc).map (fun d => d.parameters.length) = some 0 := by decide +kernel
theorem zyd_452 : zy_452.cls ≠ "java/lang/invoke/MethodHandle" ∧ zy_452.cls ≠ "java/lang/invoke/VarHandle" ∧ (parseMethodDescriptor zy_452.desc).map (fun d => d.parameters.length) = some 0 := by decide +kernel
theorem zyd_453 : zy_453.cls ≠ "java/lang/invoke/MethodHandle" ∧ zy_453.cls ≠ "java/lang/invoke/VarHandle" ∧ (parseMethodDescriptor zy_453.desc).map (fun d => d.parameters.length) = some 1 := by decide +kernel
theorem zyd_454 : zy_454.cls ≠ "java/lang/invoke/MethodHandle" ∧ zy_454.cls ≠ "java/lang/invoke/VarHandle" ∧ (parseMethodDescriptor zy_454.desc).map (fun d => d.parameters.length) = some 2 := by decide +kernel
theorem zyd_455 : zy_455.cls ≠ "java/lang/invoke/MethodHandle" ∧ zy_455.cls ≠ "java/lang/invoke/VarHandle" ∧ (parseMethodDescriptor zy_455.desc).map (fun d => d.parameters.length) = some 1 := by decide +kernel
theorem zyd_456 : zy_456.cls ≠ "java/lang/invoke/MethodHandle" ∧ zy_456.cls ≠ "java/lang/invoke/VarHandle" ∧ (parseMethodDescriptor zy_456.desc).map (fun d => d.parameters.length) = some 1 := by decide +kernel
theorem zyd_457 : zy_457.cls ≠ "java/lang/invoke/MethodHandle" ∧ zy_457.cls ≠ "java/lang/invoke/VarHandle" ∧ (parseMethodDescriptor zy_457.desc).map (fun d => d.parameters.length) = some 1 := by decide +kernel
theorem zyd_458 : zy_458.cls ≠ "java/lang/invoke/MethodHandle" ∧ zy_458.cls ≠ "java/lang/invoke/VarHandle" ∧ (parseMethodDescriptor zy_458.desc).map (fun d => d.parameters.length) = some 3 := by decide +kernel
theorem zyd_459 : zy_459.cls ≠ "java/lang/invoke/MethodHandle" ∧ zy_459.cls ≠ "java/lang/invoke/VarHandle" ∧ (parseMethodDescriptor zy_459.desc).map (fun d => d.parameters.length) = some 3 := by decide +kernel
theorem zyd_460 : zy_460.cls ≠ "java/lang/invoke/MethodHandle" ∧ zy_460.cls ≠ "java/lang/invoke/VarHandle" ∧ (parseMethodDescriptor zy_460.desc).map (fun d => d.parameters.length) = some 1 := by decide +kernel
theorem zyd_461 : zy_461.cls ≠ "java/lang/invoke/MethodHandle" ∧ zy_461.cls ≠ "java/lang/invoke/VarHandle" ∧ (parseMethodDescriptor zy_461.desc).map (fun d => d.parameters.length) = some 2 := by decide +kernel
theorem zyd_462 : zy_462.cls ≠ "java/lang/invoke/MethodHandle" ∧ zy_462.cls ≠ "java/lang/invoke/VarHandle" ∧ (parseMethodDescriptor zy_462.desc).map (fun d => d.parameters.length) = some 1 := by decide +kernel
theorem zyd_463 : zy_463.cls ≠ "java/lang/invoke/MethodHandle" ∧ zy_463.cls ≠ "java/lang/invoke/VarHandle" ∧ (parseMethodDescriptor zy_463.desc).map (fun d => d.parameters.length) = some 2 := by decide +kernel
theorem zyd_464 : zy_464.cls ≠ "java/lang/invoke/MethodHandle" ∧ zy_464.cls ≠ "java/lang/invoke/VarHandle" ∧ (parseMethodDescriptor zy_464.desc).map (fun d => d.parameters.length) = some 4 := by decide +kernel
theorem zyd_465 : zy_465.cls ≠ "java/lang/invoke/MethodHandle" ∧ zy_465.cls ≠ "java/lang/invoke/VarHandle" ∧ (parseMethodDescriptor zy_465.desc).map (fun d => d.parameters.length) = some 1 := by decide +kernel
theorem zyd_466 : zy_466.cls ≠ "java/lang/invoke/MethodHandle" ∧ zy_466.cls ≠ "java/lang/invoke/VarHandle" ∧ (parseMethodDescriptor zy_466.desc).map (fun d => d.parameters.length) = some 0 := by decide +kernel
theorem zyd_467 : zy_467.cls ≠ "java/lang/invoke/MethodHandle" ∧ zy_467.cls ≠ "java/lang/invoke/VarHandle" ∧ (parseMethodDescriptor zy_467.desc).map (fun d => d.parameters.length) = some 0 := by decide +kernel
theorem zyd_468 : zy_468.cls ≠ "java/lang/invoke/MethodHandle" ∧ zy_468.cls ≠ "java/lang/invoke/VarHandle" ∧ (parseMethodDescriptor zy_468.desc).map (fun d => d.parameters.length) = some 1 := by decide +kernel
theorem zyd_469 : zy_469.cls ≠ "java/lang/invoke/MethodHandle" ∧ zy_469.cls ≠ "java/lang/invoke/VarHandle" ∧ (parseMethodDescriptor zy_469.desc).map (fun d => d.parameters.length) = some 2 := by decide +kernel
theorem zyd_470 : zy_470.cls ≠ "java/lang/invoke/MethodHandle" ∧ zy_470.cls ≠ "java/lang/invoke/VarHandle" ∧ (parseMethodDescriptor zy_470.desc).map (fun d => d.parameters.length) = some 0 := by decide +kernel
theorem zyd_471 : zy_471.cls ≠ "java/lang/invoke/MethodHandle" ∧ zy_471.cls ≠ "java/lang/invoke/VarHandle" ∧ (parseMethodDescriptor zy_471.desc).map (fun d => d.parameters.length) = some 0 := by decide +kernel
theorem zyd_472 : zy_472.cls ≠ "java/lang/invoke/MethodHandle" ∧ zy_472.cls ≠ "java/lang/invoke/VarHandle" ∧ (parseMethodDescriptor zy_472.desc).map (fun d => d.parameters.length) = some 3 := by decide +kernel
theorem zyd_473 : zy_473.cls ≠ "java/lang/invoke/MethodHandle" ∧ zy_473.cls ≠ "java/lang/invoke/VarHandle" ∧ (parseMethodDescriptor zy_473.desc).map (fun d => d.parameters.length) = some 1 := by decide +kernel
theorem zyd_474 : zy_474.cls ≠ "java/lang/invoke/MethodHandle" ∧ zy_474.cls ≠ "java/lang/invoke/VarHandle" ∧ (parseMethodDescriptor zy_474.desc).map (fun d => d.parameters.length) = some 3 := by decide +kernel
theorem zyd_475 : zy_475.cls ≠ "java/lang/invoke/MethodHandle" ∧ zy_475.cls ≠ "java/lang/invoke/VarHandle" ∧ (parseMethodDescriptor zy_475.desc).map (fun d => d.parameters.length) = some 2 := by decide +kernel
theorem zyd_476 : zy_476.cls ≠ "java/lang/invoke/MethodHandle" ∧ zy_476.cls ≠ "java/lang/invoke/VarHandle" ∧ (parseMethodDescriptor zy_476.desc).map (fun d => d.parameters.length) = some 2 := by decide +kernel
theorem zyd_477 : zy_477.cls ≠ "java/lang/invoke/MethodHandle" ∧ zy_477.cls ≠ "java/lang/invoke/VarHandle" ∧ (parseMethodDescriptor zy_477.desc).map (fun d => d.parameters.length) = some 2 := by decide +kernel
theorem zyd_478 : zy_478.cls ≠ "java/lang/invoke/MethodHandle" ∧ zy_478.cls ≠ "java/lang/invoke/VarHandle" ∧ (parseMethodDescriptor zy_478.desc).map (fun d => d.parameters.length) = some 1 := by decide +kernel
theorem zyd_479 : zy_479.cls ≠ "java/lang/invoke/MethodHandle" ∧ zy_479.cls ≠ "java/lang/invoke/VarHandle" ∧ (parseMethodDescriptor zy_479.desc).map (fun d => d.parameters.length) = some 3 := by decide +kernel
theorem zyd_480 : zy_480.cls ≠ "java/lang/invoke/MethodHandle" ∧ zy_480.cls ≠ "java/lang/invoke/VarHandle" ∧ (parseMethodDescriptor zy_480.desc).map (fun d => d.parameters.length) = some 1 := by decide +kernel
theorem zyd_481 : zy_481.cls ≠ "java/lang/invoke/MethodHandle" ∧ zy_481.cls ≠ "java/lang/invoke/VarHandle" ∧ (parseMethodDescriptor zy_481.desc).map (fun d => d.parameters.length) = some 4 := by decide +kernel
theorem zyd_482 : zy_482.cls ≠ "java/lang/invoke/MethodHandle" ∧ zy_482.cls ≠ "java/lang/invoke/VarHandle" ∧ (parseMethodDescriptor zy_482.desc).map (fun d => d.parameters.length) = some 1 := by decide +kernel
theorem zyd_483 : zy_483.cls ≠ "java/lang/invoke/MethodHandle" ∧ zy_483.cls ≠ "java/lang/invoke/VarHandle" ∧ (parseMethodDescriptor zy_483.desc).map (fun d => d.parameters.length) = some 2 := by decide +kernel
theorem zyd_484 : zy_484.cls ≠ "java/lang/invoke/MethodHandle" ∧ zy_484.cls ≠ "java/lang/invoke/VarHandle" ∧ (parseMethodDescriptor zy_484.desc).map (fun d => d.parameters.length) = some 2 := by decide +kernel
theorem zyd_485 : zy_485.cls ≠ "java/lang/invoke/MethodHandle" ∧ zy_485.cls ≠ "java/lang/invoke/VarHandle" ∧ (parseMethodDescriptor zy_485.desc).map (fun d => d.parameters.length) = some 2 := by decide +kernel
theorem zyd_486 : zy_486.cls ≠ "java/lang/invoke/MethodHandle" ∧ zy_486.cls ≠ "java/lang/invoke/VarHandle" ∧ (parseMethodDescriptor zy_486.desc).map (fun d => d.parameters.length) = some 0 := by decide +kernel
theorem zyd_487 : zy_487.cls ≠ "java/lang/invoke/MethodHandle" ∧ zy_487.cls ≠ "java/lang/invoke/VarHandle" ∧ (parseMethodDescriptor zy_487.desc).map (fun d => d.parameters.length) = some 0 := by decide +kernel
theorem zyd_488 : zy_488.cls ≠ "java/lang/invoke/MethodHandle" ∧ zy_488.cls ≠ "java/lang/invoke/VarHandle" ∧ (parseMethodDescriptor zy_488.desc).map (fun d => d.parameters.length) = some 0 := by decide +kernel
theorem zyd_489 : zy_489.cls ≠ "java/lang/invoke/MethodHandle" ∧ zy_489.cls ≠ "java/lang/invoke/VarHandle" ∧ (parseMethodDescriptor zy_489.desc).map (fun d => d.parameters.length) = some 1 := by decide +kernel
theorem zyd_490 : zy_490.cls ≠ "java/lang/invoke/MethodHandle" ∧ zy_490.cls ≠ "java/lang/invoke/VarHandle" ∧ (parseMethodDescriptor zy_490.desc).map (fun d => d.parameters.length) = some 0 := by decide +kernel
theorem zyd_491 : zy_491.cls ≠ "java/lang/invoke/MethodHandle" ∧ zy_491.cls ≠ "java/lang/invoke/VarHandle" ∧ (parseMethodDescriptor zy_491.desc).map (fun d => d.parameters.length) = some 1 := by decide +kernel
theorem zyd_492 : zy_492.cls ≠ "java/lang/invoke/MethodHandle" ∧ zy_492.cls ≠ "java/lang/invoke/VarHandle" ∧ (parseMethodDescriptor zy_492.desc).map (fun d => d.parameters.length) = some 1 := by decide +kernel
theorem zyd_493 : zy_493.cls ≠ "java/lang/invoke/MethodHandle" ∧ zy_493.cls ≠ "java/lang/invoke/VarHandle" ∧ (parseMethodDescriptor zy_493.desc).map (fun d => d.parameters.length) = some 2 := by decide +kernel
theorem zyd_494 : zy_494.cls ≠ "java/lang/invoke/MethodHandle" ∧ zy_494.cls ≠ "java/lang/invoke/VarHandle" ∧ (parseMethodDescriptor zy_494.desc).map (fun d => d.parameters.length) = some 4 := by decide +kernel
theorem zyd_495 : zy_495.cls ≠ "java/lang/invoke/MethodHandle" ∧ zy_495.cls ≠ "java/lang/invoke/VarHandle" ∧ (parseMethodDescriptor zy_495.desc).map (fun d => d.parameters.length) = some 6 := by decide +kernel
theorem zyd_496 : zy_496.cls ≠ "java/lang/invoke/MethodHandle" ∧ zy_496.cls ≠ "java/lang/invoke/VarHandle" ∧ (parseMethodDescriptor zy_496.desc).map (fun d => d.parameters.length) = some 1 := by decide +kernel
theorem zyd_497 : zy_497.cls ≠ "java/lang/invoke/MethodHandle" ∧ zy_497.cls ≠ "java/lang/invoke/VarHandle" ∧ (parseMethodDescriptor zy_497.desc).map (fun d => d.parameters.length) = some 3 := by decide +kernel
theorem zyd_498 : zy_498.cls ≠ "java/lang/invoke/MethodHandle" ∧ zy_498.cls ≠ "java/lang/invoke/VarHandle" ∧ (parseMethodDescriptor zy_498.desc).map (fun d => d.parameters.length) = some 3 := by decide +kernel
theorem zyd_499 : zy_499.cls ≠ "java/lang/invoke/MethodHandle" ∧ zy_499.cls ≠ "java/lang/invoke/VarHandle" ∧ (parseMethodDescriptor zy_499.desc).map (fun d => d.parameters.length) = some 3 := by decide +kernel
theorem zyd_500 : zy_500.cls ≠ "java/lang/invoke/MethodHandle" ∧ zy_500.cls ≠ "java/lang/invoke/VarHandle" ∧ (parseMethodDescriptor zy_500.desc).map (fun d => d.parameters.length) = some 5 := by decide +kernel
theorem zyd_501 : zy_501.cls ≠ "java/lang/invoke/MethodHandle" ∧ zy_501.cls ≠ "java/lang/invoke/VarHandle" ∧ (parseMethodDescriptor zy_501.desc).map (fun d => d.parameters.length) = some 3 := by decide +kernel
theorem zyd_502 : zy_502.cls ≠ "java/lang/invoke/MethodHandle" ∧ zy_502.cls ≠ "java/lang/invoke/VarHandle" ∧ (parseMethodDescriptor zy_502.desc).map (fun d => d.parameters.length) = some 3 := by decide +kernel
theorem zyd_503 : zy_503.cls ≠ "java/lang/invoke/MethodHandle" ∧ zy_503.cls ≠ "java/lang/invoke/VarHandle" ∧ (parseMethodDescriptor zy_503.desc).map (fun d => d.parameters.length) = some 1 := by decide +kernel
theorem zyd_504 : zy_504.cls ≠ "java/lang/invoke/MethodHandle" ∧ zy_504.cls ≠ "java/lang/invoke/VarHandle" ∧ (parseMethodDescriptor zy_504.desc).map (fun d => d.parameters.length) = some 1 := by decide +kernel
theorem zyd_505 : zy_505.cls ≠ "java/lang/invoke/MethodHandle" ∧ zy_505.cls ≠ "java/lang/invoke/VarHandle" ∧ (parseMethodDescriptor zy_505.desc).map (fun d => d.parameters.length) = some 4 := by decide +kernel
theorem zyd_506 : zy_506.cls ≠ "java/lang/invoke/MethodHandle" ∧ zy_506.cls ≠ "java/lang/invoke/VarHandle" ∧ (parseMethodDescriptor zy_506.desc).map (fun d => d.parameters.length) = some 0 := by decide +kernel
theorem zyd_507 : zy_507.cls ≠ "java/lang/invoke/MethodHandle" ∧ zy_507.cls ≠ "java/lang/invoke/VarHandle" ∧ (parseMethodDescriptor zy_507.desc).map (fun d => d.parameters.length) = some 4 := by decide +kernel
theorem zyd_508 : zy_508.cls ≠ "java/lang/invoke/MethodHandle" ∧ zy_508.cls ≠ "java/lang/invoke/VarHandle" ∧ (parseMethodDescriptor zy_508.desc).map (fun d => d.parameters.length) = some 1 := by decide +kernel
theorem zyd_509 : zy_509.cls ≠ "java/lang/invoke/MethodHandle" ∧ zy_509.cls ≠ "java/lang/invoke/VarHandle" ∧ (parseMethodDescriptor zy_509.desc).map (fun d => d.parameters.length) = some 1 := by decide +kernel
theorem zyd_510 : zy_510.cls ≠ "java/lang/invoke/MethodHandle" ∧ zy_510.cls ≠ "java/lang/invoke/VarHandle" ∧ (parseMethodDescriptor zy_510.desc).map (fun d => d.parameters.length) = some 1 := by decide +kernel
theorem zyd_511 : zy_511.cls ≠ "java/lang/invoke/MethodHandle" ∧ zy_511.cls ≠ "java/lang/invoke/VarHandle" ∧ (parseMethodDescriptor zy_511.desc).map (fun d => d.parameters.length) = some 1 := by decide +kernel
theorem zyd_512 : zy_512.cls ≠ "java/lang/invoke/MethodHandle" ∧ zy_512.cls ≠ "java/lang/invoke/VarHandle" ∧ (parseMethodDescriptor zy_512.desc).map (fun d => d.parameters.length) = some 1 := by decide +kernel
theorem zyd_513 : zy_513.cls ≠ "java/lang/invoke/MethodHandle" ∧ zy_513.cls ≠ "java/lang/invoke/VarHandle" ∧ (parseMethodDescriptor zy_513.desc).map (fun d => d.parameters.length) = some 0 := by decide +kernel
theorem zyd_514 : zy_514.cls ≠ "java/lang/invoke/MethodHandle" ∧ zy_514.cls ≠ "java/lang/invoke/VarHandle" ∧ (parseMethodDescriptor zy_514.desc).map (fun d => d.parameters.length) = some 2 := by decide +kernel
theorem zyd_515 : zy_515.cls ≠ "java/lang/invoke/MethodHandle" ∧ zy_515.cls ≠ "java/lang/invoke/VarHandle" ∧ (parseMethodDescriptor zy_515.desc).map (fun d => d.parameters.length) = some 3 := by decide +kernel
theorem zyd_516 : zy_516.cls ≠ "java/lang/invoke/MethodHandle" ∧ zy_516.cls ≠ "java/lang/invoke/VarHandle" ∧ (parseMethodDescriptor zy_516.desc).map (fun d => d.parameters.length) = some 1 := by decide +kernel
theorem zyd_517 : zy_517.cls ≠ "java/lang/invoke/MethodHandle" ∧ zy_517.cls ≠ "java/lang/invoke/VarHandle" ∧ (parseMethodDescriptor zy_517.desc).map (fun d => d.parameters.length) = some 0 := by decide +kernel
theorem zyd_518 : zy_518.cls ≠ "java/lang/invoke/MethodHandle" ∧ zy_518.cls ≠ "java/lang/invoke/VarHandle" ∧ (parseMethodDescriptor zy_518.desc).map (fun d => d.parameters.length) = some 0 := by decide +kernel
theorem zyd_519 : zy_519.cls ≠ "java/lang/invoke/MethodHandle" ∧ zy_519.cls ≠ "java/lang/invoke/VarHandle" ∧ (parseMethodDescriptor zy_519.desc).map (fun d => d.parameters.length) = some 5 := by decide +kernel
theorem zyd_520 : zy_520.cls ≠ "java/lang/invoke/MethodHandle" ∧ zy_520.cls ≠ "java/lang/invoke/VarHandle" ∧ (parseMethodDescriptor zy_520.desc).map (fun d => d.parameters.length) = some 0 := by decide +kernel
theorem zyd_521 : zy_521.cls ≠ "java/lang/invoke/MethodHandle" ∧ zy_521.cls ≠ "java/lang/invoke/VarHandle" ∧ (parseMethodDescriptor zy_521.desc).map (fun d => d.parameters.length) = some 0 := by decide +kernel
theorem zyd_522 : zy_522.cls ≠ "java/lang/invoke/MethodHandle" ∧ zy_522.cls ≠ "java/lang/invoke/VarHandle" ∧ (parseMethodDescriptor zy_522.desc).map (fun d => d.parameters.length) = some 4 := by decide +kernel
theorem zyd_523 : zy_523.cls ≠ "java/lang/invoke/MethodHandle" ∧ zy_523.cls ≠ "java/lang/invoke/VarHandle" ∧ (parseMethodDescriptor zy_523.desc).map (fun d => d.parameters.length) = some 4 := by decide +kernel
theorem zyd_524 : zy_524.cls ≠ "java/lang/invoke/MethodHandle" ∧ zy_524.cls ≠ "java/lang/invoke/VarHandle" ∧ (parseMethodDescriptor zy_524.desc).map (fun d => d.parameters.length) = some 0 := by decide +kernel
theorem zyd_525 : zy_525.cls ≠ "java/lang/invoke/MethodHandle" ∧ zy_525.cls ≠ "java/lang/invoke/VarHandle" ∧ (parseMethodDescriptor zy_525.desc).map (fun d => d.parameters.length) = some 2 := by decide +kernel
theorem zyd_526 : zy_526.cls ≠ "java/lang/invoke/MethodHandle" ∧ zy_526.cls ≠ "java/lang/invoke/VarHandle" ∧ (parseMethodDescriptor zy_526.desc).map (fun d => d.parameters.length) = some 2 := by decide +kernel
theorem zyd_527 : zy_527.cls ≠ "java/lang/invoke/MethodHandle" ∧ zy_527.cls ≠ "java/lang/invoke/VarHandle" ∧ (parseMethodDescriptor zy_527.desc).map (fun d => d.parameters.length) = some 0 := by decide +kernel
theorem zyd_528 : zy_528.cls ≠ "java/lang/invoke/MethodHandle" ∧ zy_528.cls ≠ "java/lang/invoke/VarHandle" ∧ (parseMethodDescriptor zy_528.desc).map (fun d => d.parameters.length) = some 1 := by decide +kernel
theorem zyd_529 : zy_529.cls ≠ "java/lang/invoke/MethodHandle" ∧ zy_529.cls ≠ "java/lang/invoke/VarHandle" ∧ (parseMethodDescriptor zy_529.desc).map (fun d => d.parameters.length) = some 1 := by decide +kernel
theorem zyd_530 : zy_530.cls ≠ "java/lang/invoke/MethodHandle" ∧ zy_530.cls ≠ "java/lang/invoke/VarHandle" ∧ (parseMethodDescriptor zy_530.desc).map (fun d => d.parameters.length) = some 1 := by decide +kernel
theorem zyd_531 : zy_531.cls ≠ "java/lang/invoke/MethodHandle" ∧ zy_531.cls ≠ "java/lang/invoke/VarHandle" ∧ (parseMethodDescriptor zy_531.desc).map (fun d => d.parameters.length) = some 3 := by decide +kernel
theorem zyd_532 : zy_532.cls ≠ "java/lang/invoke/MethodHandle" ∧ zy_532.cls ≠ "java/lang/invoke/VarHandle" ∧ (parseMethodDescriptor zy_532.desc).map (fun d => d.parameters.length) = some 3 := by decide +kernel
theorem zyd_533 : zy_533.cls ≠ "java/lang/invoke/MethodHandle" ∧ zy_533.cls ≠ "java/lang/invoke/VarHandle" ∧ (parseMethodDescriptor zy_533.desc).map (fun d => d.parameters.length) = some 5 := by decide +kernel
theorem zyd_534 : zy_534.cls ≠ "java/lang/invoke/MethodHandle" ∧ zy_534.cls ≠ "java/lang/invoke/VarHandle" ∧ (parseMethodDescriptor zy_534.desc).map (fun d => d.parameters.length) = some 5 := by decide +kernel
theorem zyd_535 : zy_535.cls ≠ "java/lang/invoke/MethodHandle" ∧ zy_535.cls ≠ "java/lang/invoke/VarHandle" ∧ (parseMethodDescriptor zy_535.desc).map (fun d => d.parameters.length) = some 0 := by decide +kernel
theorem zyd_536 : zy_536.cls ≠ "java/lang/invoke/MethodHandle" ∧ zy_536.cls ≠ "java/lang/invoke/VarHandle" ∧ (parseMethodDescriptor zy_536.desc).map (fun d => d.parameters.length) = some 0 := by decide +kernel
theorem zyd_537 : zy_537.cls ≠ "java/lang/invoke/MethodHandle" ∧ zy_537.cls ≠ "java/lang/invoke/VarHandle" ∧ (parseMethodDescriptor zy_537.desc).map (fun d => d.parameters.length) = some 0 := by decide +kernel
theorem zyd_538 : zy_538.cls ≠ "java/lang/invoke/MethodHandle" ∧ zy_538.cls ≠ "java/lang/invoke/VarHandle" ∧ (parseMethodDescriptor zy_538.desc).map (fun d => d.parameters.length) = some 1 := by decide +kernel
theorem zyd_539 : zy_539.cls ≠ "java/lang/invoke/MethodHandle" ∧ zy_539.cls ≠ "java/lang/invoke/VarHandle" ∧ (parseMethodDescriptor zy_539.desc).map (fun d => d.parameters.length) = some 1 := by decide +kernel
theorem zyd_540 : zy_540.cls ≠ "java/lang/invoke/MethodHandle" ∧ zy_540.cls ≠ "java/lang/invoke/VarHandle" ∧ (parseMethodDescriptor zy_540.desc).map (fun d => d.parameters.length) = some 0 := by decide +kernel
theorem zyd_541 : zy_541.cls ≠ "java/lang/invoke/MethodHandle" ∧ zy_541.cls ≠ "java/lang/invoke/VarHandle" ∧ (parseMethodDescriptor zy_541.desc).map (fun d => d.parameters.length) = some 1 := by decide +kernel
theorem zyd_542 : zy_542.cls ≠ "java/lang/invoke/MethodHandle" ∧ zy_542.cls ≠ "java/lang/invoke/VarHandle" ∧ (parseMethodDescriptor zy_542.desc).map (fun d => d.parameters.length) = some 0 := by decide +kernel
theorem zyd_543 : zy_543.cls ≠ "java/lang/invoke/MethodHandle" ∧ zy_543.cls ≠ "java/lang/invoke/VarHandle" ∧ (parseMethodDescriptor zy_543.desc).map (fun d => d.parameters.length) = some 1 := by decide +kernel
theorem zyd_544 : zy_544.cls ≠ "java/lang/invoke/MethodHandle" ∧ zy_544.cls ≠ "java/lang/invoke/VarHandle" ∧ (parseMethodDescriptor zy_544.desc).map (fun d => d.parameters.length) = some 1 := by decide +kernel
theorem zyd_545 : zy_545.cls ≠ "java/lang/invoke/MethodHandle" ∧ zy_545.cls ≠ "java/lang/invoke/VarHandle" ∧ (parseMethodDescriptor zy_545.desc).map (fun d => d.parameters.length) = some 1 := by decide +kernel
theorem zyd_546 : zy_546.cls ≠ "java/lang/invoke/MethodHandle" ∧ zy_546.cls ≠ "java/lang/invoke/VarHandle" ∧ (parseMethodDescriptor zy_546.desc).map (fun d => d.parameters.length) = some 1 := by decide +kernel
theorem zyd_547 : zy_547.cls ≠ "java/lang/invoke/MethodHandle" ∧ zy_547.cls ≠ "java/lang/invoke/VarHandle" ∧ (parseMethodDescriptor zy_547.desc).map (fun d => d.parameters.length) = some 1 := by decide +kernel
theorem zyd_548 : zy_548.cls ≠ "java/lang/invoke/MethodHandle" ∧ zy_548.cls ≠ "java/lang/invoke/VarHandle" ∧ (parseMethodDescriptor zy_548.desc).map (fun d => d.parameters.length) = some 1 := by decide +kernel
theorem zyd_549 : zy_549.cls ≠ "java/lang/invoke/MethodHandle" ∧ zy_549.cls ≠ "java/lang/invoke/VarHandle" ∧ (parseMethodDescriptor zy_549.desc).map (fun d => d.parameters.length) = some 1 := by decide +kernel
theorem zyd_550 : zy_550.cls ≠ "java/lang/invoke/MethodHandle" ∧ zy_550.cls ≠ "java/lang/invoke/VarHandle" ∧ (parseMethodDescriptor zy_550.desc).map (fun d => d.parameters.length) = some 1 := by decide +kernel
theorem zyd_551 : zy_551.cls ≠ "java/lang/invoke/MethodHandle" ∧ zy_551.cls ≠ "java/lang/invoke/VarHandle" ∧ (parseMethodDescriptor zy_551.desc).map (fun d => d.parameters.length) = some 1 := by decide +kernel
theorem zyd_552 : zy_552.cls ≠ "java/lang/invoke/MethodHandle" ∧ zy_552.cls ≠ "java/lang/invoke/VarHandle" ∧ (parseMethodDescriptor zy_552.desc).map (fun d => d.parameters.length) = some 4 := by decide +kernel
theorem zyd_553 : zy_553.cls ≠ "java/lang/invoke/MethodHandle" ∧ zy_553.cls ≠ "java/lang/invoke/VarHandle" ∧ (parseMethodDescriptor zy_553.desc).map (fun d => d.parameters.length) = some 4 := by decide +kernel
theorem zyd_554 : zy_554.cls ≠ "java/lang/invoke/MethodHandle" ∧ zy_554.cls ≠ "java/lang/invoke/VarHandle" ∧ (parseMethodDescriptor zy_554.desc).map (fun d => d.parameters.length) = some 4 := by decide +kernel
theorem zyd_555 : zy_555.cls ≠ "java/lang/invoke/MethodHandle" ∧ zy_555.cls ≠ "java/lang/invoke/VarHandle" ∧ (parseMethodDescriptor zy_555.desc).map (fun d => d.parameters.length) = some 1 := by decide +kernel
theorem zyd_556 : zy_556.cls ≠ "java/lang/invoke/MethodHandle" ∧ zy_556.cls ≠ "java/lang/invoke/VarHandle" ∧ (parseMethodDescriptor zy_556.desc).map (fun d => d.parameters.length) = some 2 := by decide +kernel
theorem zyd_557 : zy_557.cls ≠ "java/lang/invoke/MethodHandle" ∧ zy_557.cls ≠ "java/lang/invoke/VarHandle" ∧ (parseMethodDescriptor zy_557.desc).map (fun d => d.parameters.length) = some 4 := by decide +kernel
theorem zyd_558 : zy_558.cls ≠ "java/lang/invoke/MethodHandle" ∧ zy_558.cls ≠ "java/lang/invoke/VarHandle" ∧ (parseMethodDescriptor zy_558.desc).map (fun d => d.parameters.length) = some 3 := by decide +kernel
theorem zyd_559 : zy_559.cls ≠ "java/lang/invoke/MethodHandle" ∧ zy_559.cls ≠ "java/lang/invoke/VarHandle" ∧ (parseMethodDescriptor zy_559.desc).map (fun d => d.parameters.length) = some 0 := by decide +kernel
theorem zyd_560 : zy_560.cls ≠ "java/lang/invoke/MethodHandle" ∧ zy_560.cls ≠ "java/lang/invoke/VarHandle" ∧ (parseMethodDescriptor zy_560.desc).map (fun d => d.parameters.length) = some 1 := by decide +kernel
theorem zyd_561 : zy_561.cls ≠ "java/lang/invoke/MethodHandle" ∧ zy_561.cls ≠ "java/lang/invoke/VarHandle" ∧ (parseMethodDescriptor zy_561.desc).map (fun d => d.parameters.length) = some 1 := by decide +kernel
theorem zyd_562 : zy_562.cls ≠ "java/lang/invoke/MethodHandle" ∧ zy_562.cls ≠ "java/lang/invoke/VarHandle" ∧ (parseMethodDescriptor zy_562.desc).map (fun d => d.parameters.length) = some 1 := by decide +kernel
theorem zyd_563 : zy_563.cls ≠ "java/lang/invoke/MethodHandle" ∧ zy_563.cls ≠ "java/lang/invoke/VarHandle" ∧ (parseMethodDescriptor zy_563.desc).map (fun d => d.parameters.length) = some 0 := by decide +kernel
theorem zyd_564 : zy_564.cls ≠ "java/lang/invoke/MethodHandle" ∧ zy_564.cls ≠ "java/lang/invoke/VarHandle" ∧ (parseMethodDescriptor zy_564.desc).map (fun d => d.parameters.length) = some 1 := by decide +kernel
theorem zyd_565 : zy_565.cls ≠ "java/lang/invoke/MethodHandle" ∧ zy_565.cls ≠ "java/lang/invoke/VarHandle" ∧ (parseMethodDescriptor zy_565.desc).map (fun d => d.parameters.length) = some 1 := by decide +kernel
theorem zyd_566 : zy_566.cls ≠ "java/lang/invoke/MethodHandle" ∧ zy_566.cls ≠ "java/lang/invoke/VarHandle" ∧ (parseMethodDescriptor zy_566.desc).map (fun d => d.parameters.length) = some 1 := by decide +kernel
theorem zyd_567 : zy_567.cls ≠ "java/lang/invoke/MethodHandle" ∧ zy_567.cls ≠ "java/lang/invoke/VarHandle" ∧ (parseMethodDescriptor zy_567.desc).map (fun d => d.parameters.length) = some 0 := by decide +kernel
theorem zyd_568 : zy_568.cls ≠ "java/lang/invoke/MethodHandle" ∧ zy_568.cls ≠ "java/lang/invoke/VarHandle" ∧ (parseMethodDescriptor zy_568.desc).map (fun d => d.parameters.length) = some 1 := by decide +kernel
theorem zyd_569 : zy_569.cls ≠ "java/lang/invoke/MethodHandle" ∧ zy_569.cls ≠ "java/lang/invoke/VarHandle" ∧ (parseMethodDescriptor zy_569.desc).map (fun d => d.parameters.length) = some 5 := by decide +kernel
theorem zyd_570 : zy_570.cls ≠ "java/lang/invoke/MethodHandle" ∧ zy_570.cls ≠ "java/lang/invoke/VarHandle" ∧ (parseMethodDescriptor zy_570.desc).map (fun d => d.parameters.length) = some 1 := by decide +kernel
theorem zyd_571 : zy_571.cls ≠ "java/lang/invoke/MethodHandle" ∧ zy_571.cls ≠ "java/lang/invoke/VarHandle" ∧ (parseMethodDescriptor zy_571.desc).map (fun d => d.parameters.length) = some 5 := by decide +kernel
theorem zyd_572 : zy_572.cls ≠ "java/lang/invoke/MethodHandle" ∧ zy_572.cls ≠ "java/lang/invoke/VarHandle" ∧ (parseMethodDescriptor zy_572.desc).map (fun d => d.parameters.length) = some 4 := by decide +kernel
theorem zyd_573 : zy_573.cls ≠ "java/lang/invoke/MethodHandle" ∧ zy_573.cls ≠ "java/lang/invoke/VarHandle" ∧ (parseMethodDescriptor zy_573.desc).map (fun d => d.parameters.length) = some 3 := by decide +kernel
theorem zyd_574 : zy_574.cls ≠ "java/lang/invoke/MethodHandle" ∧ zy_574.cls ≠ "java/lang/invoke/VarHandle" ∧ (parseMethodDescriptor zy_574.desc).map (fun d => d.parameters.length) = some 4 := by decide +kernel
theorem zyd_575 : zy_575.cls ≠ "java/lang/invoke/MethodHandle" ∧ zy_575.cls ≠ "java/lang/invoke/VarHandle" ∧ (parseMethodDescriptor zy_575.desc).map (fun d => d.parameters.length) = some 1 := by decide +kernel
theorem zyd_576 : zy_576.cls ≠ "java/lang/invoke/MethodHandle" ∧ zy_576.cls ≠ "java/lang/invoke/VarHandle" ∧ (parseMethodDescriptor zy_576.desc).map (fun d => d.parameters.length) = some 0 := by decide +kernel
theorem zyd_577 : zy_577.cls ≠ "java/lang/invoke/MethodHandle" ∧ zy_577.cls ≠ "java/lang/invoke/VarHandle" ∧ (parseMethodDescriptor zy_577.desc).map (fun d => d.parameters.length) = some 2 := by decide +kernel
theorem zyd_578 : zy_578.cls ≠ "java/lang/invoke/MethodHandle" ∧ zy_578.cls ≠ "java/lang/invoke/VarHandle" ∧ (parseMethodDescriptor zy_578.desc).map (fun d => d.parameters.length) = some 1 := by decide +kernel
theorem zyd_579 : zy_579.cls ≠ "java/lang/invoke/MethodHandle" ∧ zy_579.cls ≠ "java/lang/invoke/VarHandle" ∧ (parseMethodDescriptor zy_579.desc).map (fun d => d.parameters.length) = some 1 := by decide +kernel
theorem zyd_580 : zy_580.cls ≠ "java/lang/invoke/MethodHandle" ∧ zy_580.cls ≠ "java/lang/invoke/VarHandle" ∧ (parseMethodDescriptor zy_580.desc).map (fun d => d.parameters.length) = some 0 := by decide +kernel
theorem zyd_581 : zy_581.cls ≠ "java/lang/invoke/MethodHandle" ∧ zy_581.cls ≠ "java/lang/invoke/VarHandle" ∧ (parseMethodDescriptor zy_581.desc).map (fun d => d.parameters.length) = some 1 := by decide +kernel
theorem zyd_582 : zy_582.cls ≠ "java/lang/invoke/MethodHandle" ∧ zy_582.cls ≠ "java/lang/invoke/VarHandle" ∧ (parseMethodDescriptor zy_582.desc).map (fun d => d.parameters.length) = some 0 := by decide +kernel
theorem zyd_583 : zy_583.cls ≠ "java/lang/invoke/MethodHandle" ∧ zy_583.cls ≠ "java/lang/invoke/VarHandle" ∧ (parseMethodDescriptor zy_583.desc).map (fun d => d.parameters.length) = some 0 := by decide +kernel
theorem zyd_584 : zy_584.cls ≠ "java/lang/invoke/MethodHandle" ∧ zy_584.cls ≠ "java/lang/invoke/VarHandle" ∧ (parseMethodDescriptor zy_584.desc).map (fun d => d.parameters.length) = some 0 := by decide +kernel
theorem zyd_585 : zy_585.cls ≠ "java/lang/invoke/MethodHandle" ∧ zy_585.cls ≠ "java/lang/invoke/VarHandle" ∧ (parseMethodDescriptor zy_585.desc).map (fun d => d.parameters.length) = some 4 := by decide +kernel
theorem zyd_586 : zy_586.cls ≠ "java/lang/invoke/MethodHandle" ∧ zy_586.cls ≠ "java/lang/invoke/VarHandle" ∧ (parseMethodDescriptor zy_586.desc).map (fun d => d.parameters.length) = some 1 := by decide +kernel
theorem zyd_587 : zy_587.cls ≠ "java/lang/invoke/MethodHandle" ∧ zy_587.cls ≠ "java/lang/invoke/VarHandle" ∧ (parseMethodDescriptor zy_587.desc).map (fun d => d.parameters.length) = some 1 := by decide +kernel
theorem zyd_588 : zy_588.cls ≠ "java/lang/invoke/MethodHandle" ∧ zy_588.cls ≠ "java/lang/invoke/VarHandle" ∧ (parseMethodDescriptor zy_588.desc).map (fun d => d.parameters.length) = some 1 := by decide +kernel
theorem zyd_589 : zy_589.cls ≠ "java/lang/invoke/MethodHandle" ∧ zy_589.cls ≠ "java/lang/invoke/VarHandle" ∧ (parseMethodDescriptor zy_589.desc).map (fun d => d.parameters.length) = some 1 := by decide +kernel
theorem zyd_590 : zy_590.cls ≠ "java/lang/invoke/MethodHandle" ∧ zy_590.cls ≠ "java/lang/invoke/VarHandle" ∧ (parseMethodDescriptor zy_590.desc).map (fun d => d.parameters.length) = some 3 := by decide +kernel
theorem zyd_591 : zy_591.cls ≠ "java/lang/invoke/MethodHandle" ∧ zy_591.cls ≠ "java/lang/invoke/VarHandle" ∧ (parseMethodDescriptor zy_591.desc).map (fun d => d.parameters.length) = some 0 := by decide +kernel
theorem zyd_592 : zy_592.cls ≠ "java/lang/invoke/MethodHandle" ∧ zy_592.cls ≠ "java/lang/invoke/VarHandle" ∧ (parseMethodDescriptor zy_592.desc).map (fun d => d.parameters.length) = some 1 := by decide +kernel
theorem zyd_593 : zy_593.cls ≠ "java/lang/invoke/MethodHandle" ∧ zy_593.cls ≠ "java/lang/invoke/VarHandle" ∧ (parseMethodDescriptor zy_593.desc).map (fun d => d.parameters.length) = some 1 := by decide +kernel
theorem zyd_594 : zy_594.cls ≠ "java/lang/invoke/MethodHandle" ∧ zy_594.cls ≠ "java/lang/invoke/VarHandle" ∧ (parseMethodDescriptor zy_594.desc).map (fun d => d.parameters.length) = some 1 := by decide +kernel
theorem zyd_595 : zy_595.cls ≠ "java/lang/invoke/MethodHandle" ∧ zy_595.cls ≠ "java/lang/invoke/VarHandle" ∧ (parseMethodDescriptor zy_595.desc).map (fun d => d.parameters.length) = some 4 := by decide +kernel
theorem zyd_596 : zy_596.cls ≠ "java/lang/invoke/MethodHandle" ∧ zy_596.cls ≠ "java/lang/invoke/VarHandle" ∧ (parseMethodDescriptor zy_596.desc).map (fun d => d.parameters.length) = some 1 := by decide +kernel
theorem zyd_597 : zy_597.cls ≠ "java/lang/invoke/MethodHandle" ∧ zy_597.cls ≠ "java/lang/invoke/VarHandle" ∧ (parseMethodDescriptor zy_597.desc).map (fun d => d.parameters.length) = some 3 := by decide +kernel
