/-! names and fields, by program -/
def zC_0 : String := "ToolMillModel"
def zT_0 : u_T := fun k => match k with
  | 0 => ("ToolMillModel", "thrown", "I", false)
  | 1 => ("ToolMillModel", "signs", "[I", true)
  | 2 => ("ToolMillModel", "size", "I", false)
  | 3 => ("ToolMillModel", "names", "I", false)
  | 4 => ("ToolMillModel", "nameA", "[J", true)
  | 5 => ("ToolMillModel", "nameB", "[J", true)
  | 6 => ("ToolMillModel", "nameTable", "[I", true)
  | 7 => ("ToolMillModel", "faultKind", "I", false)
  | 8 => ("ToolMillModel", "faultPlace", "I", false)
  | 9 => ("ToolMillModel", "faultUnit", "I", false)
  | 10 => ("ToolMillModel", "units", "I", false)
  | 11 => ("ToolMillModel", "isSource", "[Z", true)
  | 12 => ("ToolMillModel", "typed", "[B", true)
  | 13 => ("ToolMillModel", "typedSize", "[I", true)
  | 14 => ("ToolMillModel", "sections", "[I", true)
  | 15 => ("ToolMillModel", "sectionName", "[I", true)
  | 16 => ("ToolMillModel", "sectionData", "[Z", true)
  | 17 => ("ToolMillModel", "sectionSize", "[I", true)
  | 18 => ("ToolMillModel", "sectionAlign", "[I", true)
  | 19 => ("ToolMillModel", "sectionFrom", "[I", true)
  | 20 => ("ToolMillModel", "sectionAddress", "[I", true)
  | 21 => ("ToolMillModel", "sectionReached", "[Z", true)
  | 22 => ("ToolMillModel", "objects", "[B", true)
  | 23 => ("ToolMillModel", "labels", "[I", true)
  | 24 => ("ToolMillModel", "labelName", "[I", true)
  | 25 => ("ToolMillModel", "labelSection", "[I", true)
  | 26 => ("ToolMillModel", "labelPlace", "[I", true)
  | 27 => ("ToolMillModel", "labelLine", "[I", true)
  | 28 => ("ToolMillModel", "labelGlobal", "[Z", true)
  | 29 => ("ToolMillModel", "labelKind", "[I", true)
  | 30 => ("ToolMillModel", "relocations", "[I", true)
  | 31 => ("ToolMillModel", "relSection", "[I", true)
  | 32 => ("ToolMillModel", "relPlace", "[I", true)
  | 33 => ("ToolMillModel", "relSort", "[I", true)
  | 34 => ("ToolMillModel", "relTarget", "[I", true)
  | 35 => ("ToolMillModel", "relNumber", "[I", true)
  | 36 => ("ToolMillModel", "relName", "[I", true)
  | 37 => ("ToolMillModel", "relLine", "[I", true)
  | 38 => ("ToolMillModel", "wants", "[I", true)
  | 39 => ("ToolMillModel", "wantName", "[I", true)
  | 40 => ("ToolMillModel", "wantKind", "[I", true)
  | 41 => ("ToolMillModel", "wantLine", "[I", true)
  | 42 => ("ToolMillModel", "steps", "[I", true)
  | 43 => ("ToolMillModel", "stepWhat", "[I", true)
  | 44 => ("ToolMillModel", "stepA", "[I", true)
  | 45 => ("ToolMillModel", "stepB", "[I", true)
  | 46 => ("ToolMillModel", "stepC", "[I", true)
  | 47 => ("ToolMillModel", "stepD", "[I", true)
  | 48 => ("ToolMillModel", "declared", "[I", true)
  | 49 => ("ToolMillModel", "declName", "[I", true)
  | 50 => ("ToolMillModel", "declKind", "[I", true)
  | 51 => ("ToolMillModel", "declSize", "[I", true)
  | 52 => ("ToolMillModel", "declStep", "[I", true)
  | 53 => ("ToolMillModel", "declWords", "[I", true)
  | 54 => ("ToolMillModel", "declDeep", "[I", true)
  | 55 => ("ToolMillModel", "keptName", "[I", true)
  | 56 => ("ToolMillModel", "tokens", "I", false)
  | 57 => ("ToolMillModel", "tokenKind", "[I", true)
  | 58 => ("ToolMillModel", "tokenAt", "[I", true)
  | 59 => ("ToolMillModel", "tokenValue", "[I", true)
  | 60 => ("ToolMillModel", "p", "I", false)
  | 61 => ("ToolMillModel", "stop", "Z", false)
  | 62 => ("ToolMillModel", "worst", "[I", true)
  | 63 => ("ToolMillModel", "unit", "I", false)
  | 64 => ("ToolMillModel", "open", "I", false)
  | 65 => ("ToolMillModel", "locals", "I", false)
  | 66 => ("ToolMillModel", "localName", "[I", true)
  | 67 => ("ToolMillModel", "localSize", "[I", true)
  | 68 => ("ToolMillModel", "localPlace", "[I", true)
  | 69 => ("ToolMillModel", "visible", "I", false)
  | 70 => ("ToolMillModel", "visibleOne", "[I", true)
  | 71 => ("ToolMillModel", "words", "I", false)
  | 72 => ("ToolMillModel", "deepest", "I", false)
  | 73 => ("ToolMillModel", "uses0", "I", false)
  | 74 => ("ToolMillModel", "useName", "[I", true)
  | 75 => ("ToolMillModel", "useKind", "[I", true)
  | 76 => ("ToolMillModel", "usePlace", "[I", true)
  | 77 => ("ToolMillModel", "declPlace", "[I", true)
  | 78 => ("ToolMillModel", "freshName", "[I", true)
  | 79 => ("ToolMillModel", "freshKind", "[I", true)
  | 80 => ("ToolMillModel", "freshSize", "[I", true)
  | 81 => ("ToolMillModel", "freshStep", "[I", true)
  | 82 => ("ToolMillModel", "freshWords", "[I", true)
  | 83 => ("ToolMillModel", "freshDeep", "[I", true)
  | 84 => ("ToolMillModel", "fresh", "I", false)
  | 85 => ("ToolMillModel", "contexts", "I", false)
  | 86 => ("ToolMillModel", "cxKind", "[I", true)
  | 87 => ("ToolMillModel", "cxDepth", "[I", true)
  | 88 => ("ToolMillModel", "cxSum", "[I", true)
  | 89 => ("ToolMillModel", "cxProduct", "[I", true)
  | 90 => ("ToolMillModel", "cxCompare", "[I", true)
  | 91 => ("ToolMillModel", "cxPlus", "[I", true)
  | 92 => ("ToolMillModel", "cxTimes", "[I", true)
  | 93 => ("ToolMillModel", "cxUnary", "[I", true)
  | 94 => ("ToolMillModel", "cxName", "[I", true)
  | 95 => ("ToolMillModel", "cxPlace", "[I", true)
  | 96 => ("ToolMillModel", "cxCount", "[I", true)
  | 97 => ("ToolMillModel", "cxOwn", "[I", true)
  | 98 => ("ToolMillModel", "cxAlone", "[Z", true)
  | 99 => ("ToolMillModel", "unaries", "I", false)
  | 100 => ("ToolMillModel", "unary", "[I", true)
  | 101 => ("ToolMillModel", "unaryDepth", "[I", true)
  | 102 => ("ToolMillModel", "blocks", "I", false)
  | 103 => ("ToolMillModel", "blockKind", "[I", true)
  | 104 => ("ToolMillModel", "blockVisible", "[I", true)
  | 105 => ("ToolMillModel", "outers", "I", false)
  | 106 => ("ToolMillModel", "outerName", "[I", true)
  | 107 => ("ToolMillModel", "outerKind", "[I", true)
  | 108 => ("ToolMillModel", "full", "Z", false)
  | 109 => ("ToolMillModel", "labelsTaken", "I", false)
  | 110 => ("ToolMillModel", "jumps", "I", false)
  | 111 => ("ToolMillModel", "jumpOne", "[I", true)
  | 112 => ("ToolMillModel", "jumpTwo", "[I", true)
  | 113 => ("ToolMillModel", "atIndex", "I", false)
  | 114 => ("ToolMillModel", "atEnd", "I", false)
  | 115 => ("ToolMillModel", "codes", "[I", true)
  | 116 => ("ToolMillModel", "fromTyped", "Z", false)
  | 117 => ("ToolMillModel", "target", "I", false)
  | 118 => ("ToolMillModel", "sourceSize", "I", false)
  | 119 => ("ToolMillModel", "lines", "I", false)
  | 120 => ("ToolMillModel", "lineFrom", "[I", true)
  | 121 => ("ToolMillModel", "lineTo", "[I", true)
  | 122 => ("ToolMillModel", "asmKind", "I", false)
  | 123 => ("ToolMillModel", "asmLine", "I", false)
  | 124 => ("ToolMillModel", "outerLine", "I", false)
  | 125 => ("ToolMillModel", "cameLines", "I", false)
  | 126 => ("ToolMillModel", "calledMacros", "I", false)
  | 127 => ("ToolMillModel", "curSize", "I", false)
  | 128 => ("ToolMillModel", "cur", "[I", true)
  | 129 => ("ToolMillModel", "q", "I", false)
  | 130 => ("ToolMillModel", "ok", "Z", false)
  | 131 => ("ToolMillModel", "frames", "I", false)
  | 132 => ("ToolMillModel", "frameFrom", "[I", true)
  | 133 => ("ToolMillModel", "frameTo", "[I", true)
  | 134 => ("ToolMillModel", "frameAt", "[I", true)
  | 135 => ("ToolMillModel", "frameLeft", "[I", true)
  | 136 => ("ToolMillModel", "frameMacro", "[I", true)
  | 137 => ("ToolMillModel", "frameCall", "[I", true)
  | 138 => ("ToolMillModel", "frameArgs", "[I", true)
  | 139 => ("ToolMillModel", "frameIfs", "[I", true)
  | 140 => ("ToolMillModel", "argTop", "I", false)
  | 141 => ("ToolMillModel", "argSigns", "[I", true)
  | 142 => ("ToolMillModel", "argFrom", "[I", true)
  | 143 => ("ToolMillModel", "argTo", "[I", true)
  | 144 => ("ToolMillModel", "macros", "I", false)
  | 145 => ("ToolMillModel", "macroName", "[I", true)
  | 146 => ("ToolMillModel", "macroFrom", "[I", true)
  | 147 => ("ToolMillModel", "macroTo", "[I", true)
  | 148 => ("ToolMillModel", "macroMany", "[I", true)
  | 149 => ("ToolMillModel", "macroParam", "[I", true)
  | 150 => ("ToolMillModel", "ifs", "I", false)
  | 151 => ("ToolMillModel", "ifComes", "[Z", true)
  | 152 => ("ToolMillModel", "ifDead", "[Z", true)
  | 153 => ("ToolMillModel", "ifElse", "[Z", true)
  | 154 => ("ToolMillModel", "ifLine", "[I", true)
  | 155 => ("ToolMillModel", "constants", "I", false)
  | 156 => ("ToolMillModel", "constantName", "[I", true)
  | 157 => ("ToolMillModel", "constantValue", "[I", true)
  | 158 => ("ToolMillModel", "marks", "I", false)
  | 159 => ("ToolMillModel", "globalNames", "[I", true)
  | 160 => ("ToolMillModel", "globals", "I", false)
  | 161 => ("ToolMillModel", "kindNames", "[I", true)
  | 162 => ("ToolMillModel", "kindValues", "[I", true)
  | 163 => ("ToolMillModel", "kinds", "I", false)
  | 164 => ("ToolMillModel", "reorder", "Z", false)
  | 165 => ("ToolMillModel", "section", "I", false)
  | 166 => ("ToolMillModel", "cameBytes", "I", false)
  | 167 => ("ToolMillModel", "cameValue", "[I", true)
  | 168 => ("ToolMillModel", "cameSection", "[I", true)
  | 169 => ("ToolMillModel", "labelHere", "[I", true)
  | 170 => ("ToolMillModel", "lastMoves", "[Z", true)
  | 171 => ("ToolMillModel", "lastAt", "[I", true)
  | 172 => ("ToolMillModel", "lastReads", "[I", true)
  | 173 => ("ToolMillModel", "lastSets", "[I", true)
  | 174 => ("ToolMillModel", "lastWord", "[I", true)
  | 175 => ("ToolMillModel", "digitSection", "[I", true)
  | 176 => ("ToolMillModel", "digitPlace", "[I", true)
  | 177 => ("ToolMillModel", "uses", "I", false)
  | 178 => ("ToolMillModel", "ofSection", "[I", true)
  | 179 => ("ToolMillModel", "ofPlace", "[I", true)
  | 180 => ("ToolMillModel", "ofSort", "[I", true)
  | 181 => ("ToolMillModel", "ofKind", "[I", true)
  | 182 => ("ToolMillModel", "ofName", "[I", true)
  | 183 => ("ToolMillModel", "ofTarget", "[I", true)
  | 184 => ("ToolMillModel", "ofNumber", "[I", true)
  | 185 => ("ToolMillModel", "ofLine", "[I", true)
  | 186 => ("ToolMillModel", "value", "I", false)
  | 187 => ("ToolMillModel", "valueKind", "I", false)
  | 188 => ("ToolMillModel", "valueName", "I", false)
  | 189 => ("ToolMillModel", "values", "I", false)
  | 190 => ("ToolMillModel", "vNumber", "[I", true)
  | 191 => ("ToolMillModel", "vKind", "[I", true)
  | 192 => ("ToolMillModel", "vName", "[I", true)
  | 193 => ("ToolMillModel", "vHalf", "[I", true)
  | 194 => ("ToolMillModel", "rd", "I", false)
  | 195 => ("ToolMillModel", "rs", "I", false)
  | 196 => ("ToolMillModel", "rt", "I", false)
  | 197 => ("ToolMillModel", "onRegister", "Z", false)
  | 198 => ("ToolMillModel", "newParam", "[I", true)
  | 199 => ("ToolMillModel", "frameArgTop", "[I", true)
  | 200 => ("ToolMillModel", "laid", "[I", true)
  | 201 => ("ToolMillModel", "startSection", "I", false)
  | 202 => ("ToolMillModel", "linked", "Z", false)
  | 203 => ("ToolMillModel", "base", "I", false)
  | 204 => ("ToolMillModel", "memorySize", "I", false)
  | 205 => ("ToolMillModel", "imageEnd", "I", false)
  | 206 => ("ToolMillModel", "textEnd", "I", false)
  | 207 => ("ToolMillModel", "memory", "[B", true)
  | 208 => ("ToolMillModel", "givers", "[I", true)
  | 209 => ("ToolMillModel", "registers", "[I", true)
  | 210 => ("ToolMillModel", "hi", "I", false)
  | 211 => ("ToolMillModel", "lo", "I", false)
  | 212 => ("ToolMillModel", "pc", "I", false)
  | 213 => ("ToolMillModel", "next", "I", false)
  | 214 => ("ToolMillModel", "outcome", "I", false)
  | 215 => ("ToolMillModel", "outcomeNumber", "I", false)
  | 216 => ("ToolMillModel", "stepsDone", "I", false)
  | 217 => ("ToolMillModel", "inputs", "I", false)
  | 218 => ("ToolMillModel", "input", "[I", true)
  | 219 => ("ToolMillModel", "inputsTaken", "I", false)
  | 220 => ("ToolMillModel", "outputs", "I", false)
  | 221 => ("ToolMillModel", "output", "[I", true)
  | 222 => ("ToolMillModel", "listed", "I", false)
  | 223 => ("ToolMillModel", "list", "[I", true)
  | 224 => ("ToolMillModel", "meant", "Z", false)
  | 225 => ("ToolMillModel", "meantHow", "I", false)
  | 226 => ("ToolMillModel", "meantValue", "I", false)
  | 227 => ("ToolMillModel", "meantSteps", "I", false)
  | 228 => ("ToolMillModel", "said0", "I", false)
  | 229 => ("ToolMillModel", "saidValue", "[I", true)
  | 230 => ("ToolMillModel", "meantInputs", "I", false)
  | 231 => ("ToolMillModel", "meantDeep", "I", false)
  | 232 => ("ToolMillModel", "declAt", "[I", true)
  | 233 => ("ToolMillModel", "store", "[I", true)
  | 234 => ("ToolMillModel", "leads", "[I", true)
  | 235 => ("ToolMillModel", "under", "I", false)
  | 236 => ("ToolMillModel", "backTo", "[I", true)
  | 237 => ("ToolMillModel", "backDepth", "[I", true)
  | 238 => ("ToolMillModel", "own", "[I", true)
  | 239 => ("ToolMillModel", "held", "[I", true)
  | 240 => ("ToolMillModel", "ended", "Z", false)
  | 241 => ("ToolMillModel", "atStep", "I", false)
  | _ => ("ToolMillModel", "mostSteps", "I", false)
def zY_0 : Nat → FieldType := fun k => match k with
  | 0 => .int
  | 1 => .array .int
  | 2 => .int
  | 3 => .int
  | 4 => .array .long
  | 5 => .array .long
  | 6 => .array .int
  | 7 => .int
  | 8 => .int
  | 9 => .int
  | 10 => .int
  | 11 => .array .boolean
  | 12 => .array .byte
  | 13 => .array .int
  | 14 => .array .int
  | 15 => .array .int
  | 16 => .array .boolean
  | 17 => .array .int
  | 18 => .array .int
  | 19 => .array .int
  | 20 => .array .int
  | 21 => .array .boolean
  | 22 => .array .byte
  | 23 => .array .int
  | 24 => .array .int
  | 25 => .array .int
  | 26 => .array .int
  | 27 => .array .int
  | 28 => .array .boolean
  | 29 => .array .int
  | 30 => .array .int
  | 31 => .array .int
  | 32 => .array .int
  | 33 => .array .int
  | 34 => .array .int
  | 35 => .array .int
  | 36 => .array .int
  | 37 => .array .int
  | 38 => .array .int
  | 39 => .array .int
  | 40 => .array .int
  | 41 => .array .int
  | 42 => .array .int
  | 43 => .array .int
  | 44 => .array .int
  | 45 => .array .int
  | 46 => .array .int
  | 47 => .array .int
  | 48 => .array .int
  | 49 => .array .int
  | 50 => .array .int
  | 51 => .array .int
  | 52 => .array .int
  | 53 => .array .int
  | 54 => .array .int
  | 55 => .array .int
  | 56 => .int
  | 57 => .array .int
  | 58 => .array .int
  | 59 => .array .int
  | 60 => .int
  | 61 => .boolean
  | 62 => .array .int
  | 63 => .int
  | 64 => .int
  | 65 => .int
  | 66 => .array .int
  | 67 => .array .int
  | 68 => .array .int
  | 69 => .int
  | 70 => .array .int
  | 71 => .int
  | 72 => .int
  | 73 => .int
  | 74 => .array .int
  | 75 => .array .int
  | 76 => .array .int
  | 77 => .array .int
  | 78 => .array .int
  | 79 => .array .int
  | 80 => .array .int
  | 81 => .array .int
  | 82 => .array .int
  | 83 => .array .int
  | 84 => .int
  | 85 => .int
  | 86 => .array .int
  | 87 => .array .int
  | 88 => .array .int
  | 89 => .array .int
  | 90 => .array .int
  | 91 => .array .int
  | 92 => .array .int
  | 93 => .array .int
  | 94 => .array .int
  | 95 => .array .int
  | 96 => .array .int
  | 97 => .array .int
  | 98 => .array .boolean
  | 99 => .int
  | 100 => .array .int
  | 101 => .array .int
  | 102 => .int
  | 103 => .array .int
  | 104 => .array .int
  | 105 => .int
  | 106 => .array .int
  | 107 => .array .int
  | 108 => .boolean
  | 109 => .int
  | 110 => .int
  | 111 => .array .int
  | 112 => .array .int
  | 113 => .int
  | 114 => .int
  | 115 => .array .int
  | 116 => .boolean
  | 117 => .int
  | 118 => .int
  | 119 => .int
  | 120 => .array .int
  | 121 => .array .int
  | 122 => .int
  | 123 => .int
  | 124 => .int
  | 125 => .int
  | 126 => .int
  | 127 => .int
  | 128 => .array .int
  | 129 => .int
  | 130 => .boolean
  | 131 => .int
  | 132 => .array .int
  | 133 => .array .int
  | 134 => .array .int
  | 135 => .array .int
  | 136 => .array .int
  | 137 => .array .int
  | 138 => .array .int
  | 139 => .array .int
  | 140 => .int
  | 141 => .array .int
  | 142 => .array .int
  | 143 => .array .int
  | 144 => .int
  | 145 => .array .int
  | 146 => .array .int
  | 147 => .array .int
  | 148 => .array .int
  | 149 => .array .int
  | 150 => .int
  | 151 => .array .boolean
  | 152 => .array .boolean
  | 153 => .array .boolean
  | 154 => .array .int
  | 155 => .int
  | 156 => .array .int
  | 157 => .array .int
  | 158 => .int
  | 159 => .array .int
  | 160 => .int
  | 161 => .array .int
  | 162 => .array .int
  | 163 => .int
  | 164 => .boolean
  | 165 => .int
  | 166 => .int
  | 167 => .array .int
  | 168 => .array .int
  | 169 => .array .int
  | 170 => .array .boolean
  | 171 => .array .int
  | 172 => .array .int
  | 173 => .array .int
  | 174 => .array .int
  | 175 => .array .int
  | 176 => .array .int
  | 177 => .int
  | 178 => .array .int
  | 179 => .array .int
  | 180 => .array .int
  | 181 => .array .int
  | 182 => .array .int
  | 183 => .array .int
  | 184 => .array .int
  | 185 => .array .int
  | 186 => .int
  | 187 => .int
  | 188 => .int
  | 189 => .int
  | 190 => .array .int
  | 191 => .array .int
  | 192 => .array .int
  | 193 => .array .int
  | 194 => .int
  | 195 => .int
  | 196 => .int
  | 197 => .boolean
  | 198 => .array .int
  | 199 => .array .int
  | 200 => .array .int
  | 201 => .int
  | 202 => .boolean
  | 203 => .int
  | 204 => .int
  | 205 => .int
  | 206 => .int
  | 207 => .array .byte
  | 208 => .array .int
  | 209 => .array .int
  | 210 => .int
  | 211 => .int
  | 212 => .int
  | 213 => .int
  | 214 => .int
  | 215 => .int
  | 216 => .int
  | 217 => .int
  | 218 => .array .int
  | 219 => .int
  | 220 => .int
  | 221 => .array .int
  | 222 => .int
  | 223 => .array .int
  | 224 => .boolean
  | 225 => .int
  | 226 => .int
  | 227 => .int
  | 228 => .int
  | 229 => .array .int
  | 230 => .int
  | 231 => .int
  | 232 => .array .int
  | 233 => .array .int
  | 234 => .array .int
  | 235 => .int
  | 236 => .array .int
  | 237 => .array .int
  | 238 => .array .int
  | 239 => .array .int
  | 240 => .boolean
  | 241 => .int
  | _ => .int
theorem zYk_0 : ∀ k, k < 243 → parseFieldDescriptor (zT_0 k).2.2.1 = some (zY_0 k) := by decide +kernel
theorem zNm_0 : ∀ a, a < 243 → ∀ b, b < 243 → a ≠ b → (zT_0 a).2.1 ≠ (zT_0 b).2.1 := by decide +kernel
def zcl : List vw_C := [(zC_0, zT_0, 243)]
def zFKs : List (List Nat) := [[0, 2, 0, 0, 2, 2, 2, 0, 0, 0, 0, 2, 2, 2, 2, 2, 2, 2, 2, 2, 2, 2, 2, 2, 2, 2, 2, 2, 2, 2, 2, 2, 2, 2, 2, 2, 2, 2, 2, 2, 2, 2, 2, 2, 2, 2, 2, 2, 2, 2, 2, 2, 2, 2, 2, 2, 0, 2, 2, 2, 0, 0, 2, 0, 0, 0, 2, 2, 2, 0, 2, 0, 0, 0, 2, 2, 2, 2, 2, 2, 2, 2, 2, 2, 0, 0, 2, 2, 2, 2, 2, 2, 2, 2, 2, 2, 2, 2, 2, 0, 2, 2, 0, 2, 2, 0, 2, 2, 0, 0, 0, 2, 2, 0, 0, 2, 0, 0, 0, 0, 2, 2, 0, 0, 0, 0, 0, 0, 2, 0, 0, 0, 2, 2, 2, 2, 2, 2, 2, 2, 0, 2, 2, 2, 0, 2, 2, 2, 2, 2, 0, 2, 2, 2, 2, 0, 2, 2, 0, 2, 0, 2, 2, 0, 0, 0, 0, 2, 2, 2, 2, 2, 2, 2, 2, 2, 2, 0, 2, 2, 2, 2, 2, 2, 2, 2, 0, 0, 0, 0, 2, 2, 2, 2, 0, 0, 0, 0, 2, 2, 2, 0, 0, 0, 0, 0, 0, 2, 2, 2, 0, 0, 0, 0, 0, 0, 0, 0, 2, 0, 0, 2, 0, 2, 0, 0, 0, 0, 0, 2, 0, 0, 2, 2, 2, 0, 2, 2, 2, 2, 0, 0, 0]]
def zFK (ci k : Nat) : Nat := (zFKs.getD ci []).getD k 0
theorem zDf_0 : ∀ k, k < 243 → (zFK 0 k = 0 ∧ defaultValue (zY_0 k) = .int 0) ∨ (zFK 0 k = 1 ∧ defaultValue (zY_0 k) = .long 0) ∨ (zFK 0 k = 2 ∧ defaultValue (zY_0 k) = .null) := by decide +kernel
def zTys (cy : Nat → ClassId) : List (ClassId × FieldType) := [(cy 0, .int), (cy 1, .byte), (cy 2, .boolean), (cy 3, .long), (cy 4, .object "ToolMill$Unit")]
/-! methods -/
def zy_0 : MethodName := ⟨"ToolMillModel", "<init>", "()V"⟩
def zy_1 : MethodName := ⟨"ToolMillModel", "knownNames", "()V"⟩
def zy_2 : MethodName := ⟨"ToolMillModel", "runtime", "()V"⟩
def zy_3 : MethodName := ⟨"ToolMillModel", "known", "(JJ)V"⟩
def zy_4 : MethodName := ⟨"ToolMillModel", "knownCodes", "()V"⟩
def zy_5 : MethodName := ⟨"ToolMillModel", "put", "(I)I"⟩
def zy_6 : MethodName := ⟨"ToolMillModel", "assembleText", "(IZ)Z"⟩
def zy_7 : MethodName := ⟨"ToolMillModel", "nameOf", "(JJ)I"⟩
def zy_8 : MethodName := ⟨"ToolMillModel", "sectionOf", "(I)I"⟩
def zy_9 : MethodName := ⟨"ToolMillModel", "in", "(III)Z"⟩
def zy_10 : MethodName := ⟨"ToolMillModel", "refuse", "(ZZ)Z"⟩
def zy_11 : MethodName := ⟨"ToolMillModel", "beginUnit", "(I)V"⟩
def zy_12 : MethodName := ⟨"ToolMillModel", "findLines", "()V"⟩
def zy_13 : MethodName := ⟨"ToolMillModel", "openFrame", "(IIIII)V"⟩
def zy_14 : MethodName := ⟨"ToolMillModel", "nextLine", "()V"⟩
def zy_15 : MethodName := ⟨"ToolMillModel", "layBytes", "()V"⟩
def zy_16 : MethodName := ⟨"ToolMillModel", "settle", "()V"⟩
def zy_17 : MethodName := ⟨"ToolMillModel", "addSection", "(IZ)V"⟩
def zy_18 : MethodName := ⟨"ToolMillModel", "sourceAt", "(I)I"⟩
def zy_19 : MethodName := ⟨"ToolMillModel", "countLine", "(I)V"⟩
def zy_20 : MethodName := ⟨"ToolMillModel", "takeLine", "(II)V"⟩
def zy_21 : MethodName := ⟨"ToolMillModel", "lookAtLine", "()V"⟩
def zy_22 : MethodName := ⟨"ToolMillModel", "endFrame", "(I)V"⟩
def zy_23 : MethodName := ⟨"ToolMillModel", "settleUse", "(I)V"⟩
def zy_24 : MethodName := ⟨"ToolMillModel", "kindOf", "(I)I"⟩
def zy_25 : MethodName := ⟨"ToolMillModel", "isGlobal", "(I)Z"⟩
def zy_26 : MethodName := ⟨"ToolMillModel", "add", "(I)V"⟩
def zy_27 : MethodName := ⟨"ToolMillModel", "blanks", "()V"⟩
def zy_28 : MethodName := ⟨"ToolMillModel", "here", "()I"⟩
def zy_29 : MethodName := ⟨"ToolMillModel", "isWordBegin", "(I)Z"⟩
def zy_30 : MethodName := ⟨"ToolMillModel", "readWord", "()I"⟩
def zy_31 : MethodName := ⟨"ToolMillModel", "isNext", "(I)Z"⟩
def zy_32 : MethodName := ⟨"ToolMillModel", "operate", "(IZ)V"⟩
def zy_33 : MethodName := ⟨"ToolMillModel", "wordLabel", "(I)V"⟩
def zy_34 : MethodName := ⟨"ToolMillModel", "labelOf", "(I)I"⟩
def zy_35 : MethodName := ⟨"ToolMillModel", "isSmall", "(I)Z"⟩
def zy_36 : MethodName := ⟨"ToolMillModel", "isWordSign", "(I)Z"⟩
def zy_37 : MethodName := ⟨"ToolMillModel", "macroOf", "(I)I"⟩
def zy_38 : MethodName := ⟨"ToolMillModel", "directive", "(I)V"⟩
def zy_39 : MethodName := ⟨"ToolMillModel", "instruction", "(I)V"⟩
def zy_40 : MethodName := ⟨"ToolMillModel", "constantOf", "(I)I"⟩
def zy_41 : MethodName := ⟨"ToolMillModel", "sizeHere", "()I"⟩
def zy_42 : MethodName := ⟨"ToolMillModel", "isDigit", "(I)Z"⟩
def zy_43 : MethodName := ⟨"ToolMillModel", "toSection", "(Z)V"⟩
def zy_44 : MethodName := ⟨"ToolMillModel", "tellName", "(I)V"⟩
def zy_45 : MethodName := ⟨"ToolMillModel", "readOperands", "(I)V"⟩
def zy_46 : MethodName := ⟨"ToolMillModel", "lineEnds", "()V"⟩
def zy_47 : MethodName := ⟨"ToolMillModel", "isNumberRight", "(I)Z"⟩
def zy_48 : MethodName := ⟨"ToolMillModel", "areReferencesThere", "()Z"⟩
def zy_49 : MethodName := ⟨"ToolMillModel", "comeOther", "(I)V"⟩
def zy_50 : MethodName := ⟨"ToolMillModel", "comeRow", "(I)V"⟩
def zy_51 : MethodName := ⟨"ToolMillModel", "mark", "(I)Z"⟩
def zy_52 : MethodName := ⟨"ToolMillModel", "sign", "(I)V"⟩
def zy_53 : MethodName := ⟨"ToolMillModel", "oneValue", "(I)V"⟩
def zy_54 : MethodName := ⟨"ToolMillModel", "readBranch", "(I)V"⟩
def zy_55 : MethodName := ⟨"ToolMillModel", "comeBranch", "(IIZII)V"⟩
def zy_56 : MethodName := ⟨"ToolMillModel", "wordOf", "(IIIII)I"⟩
def zy_57 : MethodName := ⟨"ToolMillModel", "bit", "(I)I"⟩
def zy_58 : MethodName := ⟨"ToolMillModel", "come", "(IIIZ)V"⟩
def zy_59 : MethodName := ⟨"ToolMillModel", "comeLi", "()V"⟩
def zy_60 : MethodName := ⟨"ToolMillModel", "readValue", "()V"⟩
def zy_61 : MethodName := ⟨"ToolMillModel", "keepValue", "(I)V"⟩
def zy_62 : MethodName := ⟨"ToolMillModel", "readRegister", "()I"⟩
def zy_63 : MethodName := ⟨"ToolMillModel", "addUse", "(III)V"⟩
def zy_64 : MethodName := ⟨"ToolMillModel", "appendWord", "(I)V"⟩
def zy_65 : MethodName := ⟨"ToolMillModel", "halfWord", "(IIII)I"⟩
def zy_66 : MethodName := ⟨"ToolMillModel", "takeLabelOf", "(IIZ)V"⟩
def zy_67 : MethodName := ⟨"ToolMillModel", "numberTerm", "(Z)V"⟩
def zy_68 : MethodName := ⟨"ToolMillModel", "appendByte", "(I)V"⟩
def zMs : List (List (MethodName × ByteArray × Nat × Option FieldType)) := [[(zy_0, prog_14_method_1_code, 1, none), (zy_1, prog_14_method_96_code, 1, none), (zy_2, prog_14_method_182_code, 3, none), (zy_3, prog_14_method_95_code, 6, none), (zy_4, prog_14_method_97_code, 1, none), (zy_5, prog_14_method_5_code, 6, (some .int)), (zy_6, prog_14_method_175_code, 3, (some .boolean)), (zy_7, prog_14_method_7_code, 9, (some .int)), (zy_8, prog_14_method_148_code, 4, (some .int)), (zy_9, prog_14_method_4_code, 3, (some .boolean)), (zy_10, prog_14_method_3_code, 3, (some .boolean)), (zy_11, prog_14_method_174_code, 3, none), (zy_12, prog_14_method_101_code, 4, none), (zy_13, prog_14_method_166_code, 6, none), (zy_14, prog_14_method_173_code, 3, none), (zy_15, prog_14_method_176_code, 3, none)],
  [(zy_16, prog_14_method_178_code, 4, none), (zy_17, prog_14_method_149_code, 4, none), (zy_18, prog_14_method_98_code, 2, (some .int)), (zy_19, prog_14_method_164_code, 2, none), (zy_20, prog_14_method_107_code, 6, none), (zy_21, prog_14_method_172_code, 3, none), (zy_22, prog_14_method_169_code, 2, none), (zy_23, prog_14_method_177_code, 7, none), (zy_24, prog_14_method_151_code, 4, (some .int)), (zy_25, prog_14_method_152_code, 4, (some .boolean)), (zy_26, prog_14_method_105_code, 2, none), (zy_27, prog_14_method_110_code, 1, none), (zy_28, prog_14_method_109_code, 1, (some .int)), (zy_29, prog_14_method_102_code, 1, (some .boolean)), (zy_30, prog_14_method_114_code, 7, (some .int)), (zy_31, prog_14_method_112_code, 2, (some .boolean))],
  [(zy_32, prog_14_method_171_code, 5, none), (zy_33, prog_14_method_131_code, 3, none), (zy_34, prog_14_method_130_code, 4, (some .int)), (zy_35, prog_14_method_14_code, 1, (some .boolean)), (zy_36, prog_14_method_103_code, 1, (some .boolean)), (zy_37, prog_14_method_163_code, 4, (some .int)), (zy_38, prog_14_method_158_code, 2, none), (zy_39, prog_14_method_140_code, 2, none), (zy_40, prog_14_method_116_code, 4, (some .int)), (zy_41, prog_14_method_123_code, 1, (some .int)), (zy_42, prog_14_method_15_code, 1, (some .boolean)), (zy_43, prog_14_method_150_code, 4, none), (zy_44, prog_14_method_154_code, 4, none), (zy_45, prog_14_method_135_code, 2, none), (zy_46, prog_14_method_113_code, 1, none), (zy_47, prog_14_method_138_code, 3, (some .boolean))],
  [(zy_48, prog_14_method_139_code, 3, (some .boolean)), (zy_49, prog_14_method_146_code, 4, none), (zy_50, prog_14_method_141_code, 3, none), (zy_51, prog_14_method_153_code, 2, (some .boolean)), (zy_52, prog_14_method_111_code, 2, none), (zy_53, prog_14_method_121_code, 2, none), (zy_54, prog_14_method_137_code, 2, none), (zy_55, prog_14_method_129_code, 9, none), (zy_56, prog_14_method_133_code, 5, (some .int)), (zy_57, prog_14_method_128_code, 1, (some .int)), (zy_58, prog_14_method_127_code, 6, none), (zy_59, prog_14_method_144_code, 2, none), (zy_60, prog_14_method_119_code, 5, none), (zy_61, prog_14_method_120_code, 2, none), (zy_62, prog_14_method_115_code, 8, (some .int)), (zy_63, prog_14_method_126_code, 4, none)],
  [(zy_64, prog_14_method_125_code, 3, none), (zy_65, prog_14_method_134_code, 4, (some .int)), (zy_66, prog_14_method_117_code, 4, none), (zy_67, prog_14_method_118_code, 6, none), (zy_68, prog_14_method_124_code, 2, none)]]
def zM0 : MethodName × ByteArray × Nat × Option FieldType := (zy_0, prog_14_method_1_code, 1, none)
def zMA (y : Nat) : MethodName × ByteArray × Nat × Option FieldType := (zMs.getD (y / 16) []).getD (y % 16) zM0
def zYN (y : Nat) : MethodName := (zMA y).1
def zCN (y : Nat) : ByteArray := (zMA y).2.1
def zRT (y : Nat) : Option FieldType := (zMA y).2.2.2
def zMQ (y : Nat) : Nat := (zMA y).2.2.1
theorem zyd_0 : zy_0.cls ≠ "java/lang/invoke/MethodHandle" ∧ zy_0.cls ≠ "java/lang/invoke/VarHandle" ∧ (parseMethodDescriptor zy_0.desc).map (fun d => d.parameters.length) = some 0 := by decide +kernel
theorem zyd_1 : zy_1.cls ≠ "java/lang/invoke/MethodHandle" ∧ zy_1.cls ≠ "java/lang/invoke/VarHandle" ∧ (parseMethodDescriptor zy_1.desc).map (fun d => d.parameters.length) = some 0 := by decide +kernel
theorem zyd_2 : zy_2.cls ≠ "java/lang/invoke/MethodHandle" ∧ zy_2.cls ≠ "java/lang/invoke/VarHandle" ∧ (parseMethodDescriptor zy_2.desc).map (fun d => d.parameters.length) = some 0 := by decide +kernel
theorem zyd_3 : zy_3.cls ≠ "java/lang/invoke/MethodHandle" ∧ zy_3.cls ≠ "java/lang/invoke/VarHandle" ∧ (parseMethodDescriptor zy_3.desc).map (fun d => d.parameters.length) = some 2 := by decide +kernel
theorem zyd_4 : zy_4.cls ≠ "java/lang/invoke/MethodHandle" ∧ zy_4.cls ≠ "java/lang/invoke/VarHandle" ∧ (parseMethodDescriptor zy_4.desc).map (fun d => d.parameters.length) = some 0 := by decide +kernel
theorem zyd_5 : zy_5.cls ≠ "java/lang/invoke/MethodHandle" ∧ zy_5.cls ≠ "java/lang/invoke/VarHandle" ∧ (parseMethodDescriptor zy_5.desc).map (fun d => d.parameters.length) = some 1 := by decide +kernel
theorem zyd_6 : zy_6.cls ≠ "java/lang/invoke/MethodHandle" ∧ zy_6.cls ≠ "java/lang/invoke/VarHandle" ∧ (parseMethodDescriptor zy_6.desc).map (fun d => d.parameters.length) = some 2 := by decide +kernel
theorem zyd_7 : zy_7.cls ≠ "java/lang/invoke/MethodHandle" ∧ zy_7.cls ≠ "java/lang/invoke/VarHandle" ∧ (parseMethodDescriptor zy_7.desc).map (fun d => d.parameters.length) = some 2 := by decide +kernel
theorem zyd_8 : zy_8.cls ≠ "java/lang/invoke/MethodHandle" ∧ zy_8.cls ≠ "java/lang/invoke/VarHandle" ∧ (parseMethodDescriptor zy_8.desc).map (fun d => d.parameters.length) = some 1 := by decide +kernel
theorem zyd_9 : zy_9.cls ≠ "java/lang/invoke/MethodHandle" ∧ zy_9.cls ≠ "java/lang/invoke/VarHandle" ∧ (parseMethodDescriptor zy_9.desc).map (fun d => d.parameters.length) = some 3 := by decide +kernel
theorem zyd_10 : zy_10.cls ≠ "java/lang/invoke/MethodHandle" ∧ zy_10.cls ≠ "java/lang/invoke/VarHandle" ∧ (parseMethodDescriptor zy_10.desc).map (fun d => d.parameters.length) = some 2 := by decide +kernel
theorem zyd_11 : zy_11.cls ≠ "java/lang/invoke/MethodHandle" ∧ zy_11.cls ≠ "java/lang/invoke/VarHandle" ∧ (parseMethodDescriptor zy_11.desc).map (fun d => d.parameters.length) = some 1 := by decide +kernel
theorem zyd_12 : zy_12.cls ≠ "java/lang/invoke/MethodHandle" ∧ zy_12.cls ≠ "java/lang/invoke/VarHandle" ∧ (parseMethodDescriptor zy_12.desc).map (fun d => d.parameters.length) = some 0 := by decide +kernel
theorem zyd_13 : zy_13.cls ≠ "java/lang/invoke/MethodHandle" ∧ zy_13.cls ≠ "java/lang/invoke/VarHandle" ∧ (parseMethodDescriptor zy_13.desc).map (fun d => d.parameters.length) = some 5 := by decide +kernel
theorem zyd_14 : zy_14.cls ≠ "java/lang/invoke/MethodHandle" ∧ zy_14.cls ≠ "java/lang/invoke/VarHandle" ∧ (parseMethodDescriptor zy_14.desc).map (fun d => d.parameters.length) = some 0 := by decide +kernel
theorem zyd_15 : zy_15.cls ≠ "java/lang/invoke/MethodHandle" ∧ zy_15.cls ≠ "java/lang/invoke/VarHandle" ∧ (parseMethodDescriptor zy_15.desc).map (fun d => d.parameters.length) = some 0 := by decide +kernel
theorem zyd_16 : zy_16.cls ≠ "java/lang/invoke/MethodHandle" ∧ zy_16.cls ≠ "java/lang/invoke/VarHandle" ∧ (parseMethodDescriptor zy_16.desc).map (fun d => d.parameters.length) = some 0 := by decide +kernel
theorem zyd_17 : zy_17.cls ≠ "java/lang/invoke/MethodHandle" ∧ zy_17.cls ≠ "java/lang/invoke/VarHandle" ∧ (parseMethodDescriptor zy_17.desc).map (fun d => d.parameters.length) = some 2 := by decide +kernel
theorem zyd_18 : zy_18.cls ≠ "java/lang/invoke/MethodHandle" ∧ zy_18.cls ≠ "java/lang/invoke/VarHandle" ∧ (parseMethodDescriptor zy_18.desc).map (fun d => d.parameters.length) = some 1 := by decide +kernel
theorem zyd_19 : zy_19.cls ≠ "java/lang/invoke/MethodHandle" ∧ zy_19.cls ≠ "java/lang/invoke/VarHandle" ∧ (parseMethodDescriptor zy_19.desc).map (fun d => d.parameters.length) = some 1 := by decide +kernel
theorem zyd_20 : zy_20.cls ≠ "java/lang/invoke/MethodHandle" ∧ zy_20.cls ≠ "java/lang/invoke/VarHandle" ∧ (parseMethodDescriptor zy_20.desc).map (fun d => d.parameters.length) = some 2 := by decide +kernel
theorem zyd_21 : zy_21.cls ≠ "java/lang/invoke/MethodHandle" ∧ zy_21.cls ≠ "java/lang/invoke/VarHandle" ∧ (parseMethodDescriptor zy_21.desc).map (fun d => d.parameters.length) = some 0 := by decide +kernel
theorem zyd_22 : zy_22.cls ≠ "java/lang/invoke/MethodHandle" ∧ zy_22.cls ≠ "java/lang/invoke/VarHandle" ∧ (parseMethodDescriptor zy_22.desc).map (fun d => d.parameters.length) = some 1 := by decide +kernel
theorem zyd_23 : zy_23.cls ≠ "java/lang/invoke/MethodHandle" ∧ zy_23.cls ≠ "java/lang/invoke/VarHandle" ∧ (parseMethodDescriptor zy_23.desc).map (fun d => d.parameters.length) = some 1 := by decide +kernel
theorem zyd_24 : zy_24.cls ≠ "java/lang/invoke/MethodHandle" ∧ zy_24.cls ≠ "java/lang/invoke/VarHandle" ∧ (parseMethodDescriptor zy_24.desc).map (fun d => d.parameters.length) = some 1 := by decide +kernel
theorem zyd_25 : zy_25.cls ≠ "java/lang/invoke/MethodHandle" ∧ zy_25.cls ≠ "java/lang/invoke/VarHandle" ∧ (parseMethodDescriptor zy_25.desc).map (fun d => d.parameters.length) = some 1 := by decide +kernel
theorem zyd_26 : zy_26.cls ≠ "java/lang/invoke/MethodHandle" ∧ zy_26.cls ≠ "java/lang/invoke/VarHandle" ∧ (parseMethodDescriptor zy_26.desc).map (fun d => d.parameters.length) = some 1 := by decide +kernel
theorem zyd_27 : zy_27.cls ≠ "java/lang/invoke/MethodHandle" ∧ zy_27.cls ≠ "java/lang/invoke/VarHandle" ∧ (parseMethodDescriptor zy_27.desc).map (fun d => d.parameters.length) = some 0 := by decide +kernel
theorem zyd_28 : zy_28.cls ≠ "java/lang/invoke/MethodHandle" ∧ zy_28.cls ≠ "java/lang/invoke/VarHandle" ∧ (parseMethodDescriptor zy_28.desc).map (fun d => d.parameters.length) = some 0 := by decide +kernel
theorem zyd_29 : zy_29.cls ≠ "java/lang/invoke/MethodHandle" ∧ zy_29.cls ≠ "java/lang/invoke/VarHandle" ∧ (parseMethodDescriptor zy_29.desc).map (fun d => d.parameters.length) = some 1 := by decide +kernel
theorem zyd_30 : zy_30.cls ≠ "java/lang/invoke/MethodHandle" ∧ zy_30.cls ≠ "java/lang/invoke/VarHandle" ∧ (parseMethodDescriptor zy_30.desc).map (fun d => d.parameters.length) = some 0 := by decide +kernel
theorem zyd_31 : zy_31.cls ≠ "java/lang/invoke/MethodHandle" ∧ zy_31.cls ≠ "java/lang/invoke/VarHandle" ∧ (parseMethodDescriptor zy_31.desc).map (fun d => d.parameters.length) = some 1 := by decide +kernel
theorem zyd_32 : zy_32.cls ≠ "java/lang/invoke/MethodHandle" ∧ zy_32.cls ≠ "java/lang/invoke/VarHandle" ∧ (parseMethodDescriptor zy_32.desc).map (fun d => d.parameters.length) = some 2 := by decide +kernel
theorem zyd_33 : zy_33.cls ≠ "java/lang/invoke/MethodHandle" ∧ zy_33.cls ≠ "java/lang/invoke/VarHandle" ∧ (parseMethodDescriptor zy_33.desc).map (fun d => d.parameters.length) = some 1 := by decide +kernel
theorem zyd_34 : zy_34.cls ≠ "java/lang/invoke/MethodHandle" ∧ zy_34.cls ≠ "java/lang/invoke/VarHandle" ∧ (parseMethodDescriptor zy_34.desc).map (fun d => d.parameters.length) = some 1 := by decide +kernel
theorem zyd_35 : zy_35.cls ≠ "java/lang/invoke/MethodHandle" ∧ zy_35.cls ≠ "java/lang/invoke/VarHandle" ∧ (parseMethodDescriptor zy_35.desc).map (fun d => d.parameters.length) = some 1 := by decide +kernel
theorem zyd_36 : zy_36.cls ≠ "java/lang/invoke/MethodHandle" ∧ zy_36.cls ≠ "java/lang/invoke/VarHandle" ∧ (parseMethodDescriptor zy_36.desc).map (fun d => d.parameters.length) = some 1 := by decide +kernel
theorem zyd_37 : zy_37.cls ≠ "java/lang/invoke/MethodHandle" ∧ zy_37.cls ≠ "java/lang/invoke/VarHandle" ∧ (parseMethodDescriptor zy_37.desc).map (fun d => d.parameters.length) = some 1 := by decide +kernel
theorem zyd_38 : zy_38.cls ≠ "java/lang/invoke/MethodHandle" ∧ zy_38.cls ≠ "java/lang/invoke/VarHandle" ∧ (parseMethodDescriptor zy_38.desc).map (fun d => d.parameters.length) = some 1 := by decide +kernel
theorem zyd_39 : zy_39.cls ≠ "java/lang/invoke/MethodHandle" ∧ zy_39.cls ≠ "java/lang/invoke/VarHandle" ∧ (parseMethodDescriptor zy_39.desc).map (fun d => d.parameters.length) = some 1 := by decide +kernel
theorem zyd_40 : zy_40.cls ≠ "java/lang/invoke/MethodHandle" ∧ zy_40.cls ≠ "java/lang/invoke/VarHandle" ∧ (parseMethodDescriptor zy_40.desc).map (fun d => d.parameters.length) = some 1 := by decide +kernel
theorem zyd_41 : zy_41.cls ≠ "java/lang/invoke/MethodHandle" ∧ zy_41.cls ≠ "java/lang/invoke/VarHandle" ∧ (parseMethodDescriptor zy_41.desc).map (fun d => d.parameters.length) = some 0 := by decide +kernel
theorem zyd_42 : zy_42.cls ≠ "java/lang/invoke/MethodHandle" ∧ zy_42.cls ≠ "java/lang/invoke/VarHandle" ∧ (parseMethodDescriptor zy_42.desc).map (fun d => d.parameters.length) = some 1 := by decide +kernel
theorem zyd_43 : zy_43.cls ≠ "java/lang/invoke/MethodHandle" ∧ zy_43.cls ≠ "java/lang/invoke/VarHandle" ∧ (parseMethodDescriptor zy_43.desc).map (fun d => d.parameters.length) = some 1 := by decide +kernel
theorem zyd_44 : zy_44.cls ≠ "java/lang/invoke/MethodHandle" ∧ zy_44.cls ≠ "java/lang/invoke/VarHandle" ∧ (parseMethodDescriptor zy_44.desc).map (fun d => d.parameters.length) = some 1 := by decide +kernel
theorem zyd_45 : zy_45.cls ≠ "java/lang/invoke/MethodHandle" ∧ zy_45.cls ≠ "java/lang/invoke/VarHandle" ∧ (parseMethodDescriptor zy_45.desc).map (fun d => d.parameters.length) = some 1 := by decide +kernel
theorem zyd_46 : zy_46.cls ≠ "java/lang/invoke/MethodHandle" ∧ zy_46.cls ≠ "java/lang/invoke/VarHandle" ∧ (parseMethodDescriptor zy_46.desc).map (fun d => d.parameters.length) = some 0 := by decide +kernel
theorem zyd_47 : zy_47.cls ≠ "java/lang/invoke/MethodHandle" ∧ zy_47.cls ≠ "java/lang/invoke/VarHandle" ∧ (parseMethodDescriptor zy_47.desc).map (fun d => d.parameters.length) = some 1 := by decide +kernel
theorem zyd_48 : zy_48.cls ≠ "java/lang/invoke/MethodHandle" ∧ zy_48.cls ≠ "java/lang/invoke/VarHandle" ∧ (parseMethodDescriptor zy_48.desc).map (fun d => d.parameters.length) = some 0 := by decide +kernel
theorem zyd_49 : zy_49.cls ≠ "java/lang/invoke/MethodHandle" ∧ zy_49.cls ≠ "java/lang/invoke/VarHandle" ∧ (parseMethodDescriptor zy_49.desc).map (fun d => d.parameters.length) = some 1 := by decide +kernel
theorem zyd_50 : zy_50.cls ≠ "java/lang/invoke/MethodHandle" ∧ zy_50.cls ≠ "java/lang/invoke/VarHandle" ∧ (parseMethodDescriptor zy_50.desc).map (fun d => d.parameters.length) = some 1 := by decide +kernel
theorem zyd_51 : zy_51.cls ≠ "java/lang/invoke/MethodHandle" ∧ zy_51.cls ≠ "java/lang/invoke/VarHandle" ∧ (parseMethodDescriptor zy_51.desc).map (fun d => d.parameters.length) = some 1 := by decide +kernel
theorem zyd_52 : zy_52.cls ≠ "java/lang/invoke/MethodHandle" ∧ zy_52.cls ≠ "java/lang/invoke/VarHandle" ∧ (parseMethodDescriptor zy_52.desc).map (fun d => d.parameters.length) = some 1 := by decide +kernel
theorem zyd_53 : zy_53.cls ≠ "java/lang/invoke/MethodHandle" ∧ zy_53.cls ≠ "java/lang/invoke/VarHandle" ∧ (parseMethodDescriptor zy_53.desc).map (fun d => d.parameters.length) = some 1 := by decide +kernel
theorem zyd_54 : zy_54.cls ≠ "java/lang/invoke/MethodHandle" ∧ zy_54.cls ≠ "java/lang/invoke/VarHandle" ∧ (parseMethodDescriptor zy_54.desc).map (fun d => d.parameters.length) = some 1 := by decide +kernel
theorem zyd_55 : zy_55.cls ≠ "java/lang/invoke/MethodHandle" ∧ zy_55.cls ≠ "java/lang/invoke/VarHandle" ∧ (parseMethodDescriptor zy_55.desc).map (fun d => d.parameters.length) = some 5 := by decide +kernel
theorem zyd_56 : zy_56.cls ≠ "java/lang/invoke/MethodHandle" ∧ zy_56.cls ≠ "java/lang/invoke/VarHandle" ∧ (parseMethodDescriptor zy_56.desc).map (fun d => d.parameters.length) = some 5 := by decide +kernel
theorem zyd_57 : zy_57.cls ≠ "java/lang/invoke/MethodHandle" ∧ zy_57.cls ≠ "java/lang/invoke/VarHandle" ∧ (parseMethodDescriptor zy_57.desc).map (fun d => d.parameters.length) = some 1 := by decide +kernel
theorem zyd_58 : zy_58.cls ≠ "java/lang/invoke/MethodHandle" ∧ zy_58.cls ≠ "java/lang/invoke/VarHandle" ∧ (parseMethodDescriptor zy_58.desc).map (fun d => d.parameters.length) = some 4 := by decide +kernel
theorem zyd_59 : zy_59.cls ≠ "java/lang/invoke/MethodHandle" ∧ zy_59.cls ≠ "java/lang/invoke/VarHandle" ∧ (parseMethodDescriptor zy_59.desc).map (fun d => d.parameters.length) = some 0 := by decide +kernel
theorem zyd_60 : zy_60.cls ≠ "java/lang/invoke/MethodHandle" ∧ zy_60.cls ≠ "java/lang/invoke/VarHandle" ∧ (parseMethodDescriptor zy_60.desc).map (fun d => d.parameters.length) = some 0 := by decide +kernel
theorem zyd_61 : zy_61.cls ≠ "java/lang/invoke/MethodHandle" ∧ zy_61.cls ≠ "java/lang/invoke/VarHandle" ∧ (parseMethodDescriptor zy_61.desc).map (fun d => d.parameters.length) = some 1 := by decide +kernel
theorem zyd_62 : zy_62.cls ≠ "java/lang/invoke/MethodHandle" ∧ zy_62.cls ≠ "java/lang/invoke/VarHandle" ∧ (parseMethodDescriptor zy_62.desc).map (fun d => d.parameters.length) = some 0 := by decide +kernel
theorem zyd_63 : zy_63.cls ≠ "java/lang/invoke/MethodHandle" ∧ zy_63.cls ≠ "java/lang/invoke/VarHandle" ∧ (parseMethodDescriptor zy_63.desc).map (fun d => d.parameters.length) = some 3 := by decide +kernel
theorem zyd_64 : zy_64.cls ≠ "java/lang/invoke/MethodHandle" ∧ zy_64.cls ≠ "java/lang/invoke/VarHandle" ∧ (parseMethodDescriptor zy_64.desc).map (fun d => d.parameters.length) = some 1 := by decide +kernel
theorem zyd_65 : zy_65.cls ≠ "java/lang/invoke/MethodHandle" ∧ zy_65.cls ≠ "java/lang/invoke/VarHandle" ∧ (parseMethodDescriptor zy_65.desc).map (fun d => d.parameters.length) = some 4 := by decide +kernel
theorem zyd_66 : zy_66.cls ≠ "java/lang/invoke/MethodHandle" ∧ zy_66.cls ≠ "java/lang/invoke/VarHandle" ∧ (parseMethodDescriptor zy_66.desc).map (fun d => d.parameters.length) = some 3 := by decide +kernel
theorem zyd_67 : zy_67.cls ≠ "java/lang/invoke/MethodHandle" ∧ zy_67.cls ≠ "java/lang/invoke/VarHandle" ∧ (parseMethodDescriptor zy_67.desc).map (fun d => d.parameters.length) = some 1 := by decide +kernel
theorem zyd_68 : zy_68.cls ≠ "java/lang/invoke/MethodHandle" ∧ zy_68.cls ≠ "java/lang/invoke/VarHandle" ∧ (parseMethodDescriptor zy_68.desc).map (fun d => d.parameters.length) = some 1 := by decide +kernel
