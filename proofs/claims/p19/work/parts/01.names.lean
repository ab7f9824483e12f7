/-! names: field tables, codes, words -/
def F_LI : u_T := fun k => match k with
  | 0 => ("LoopInduction", "tape", "LLoopInduction$Tape;", true)
  | 1 => ("LoopInduction", "tokens", "LLoopInduction$Tokens;", true)
  | 2 => ("LoopInduction", "code", "LLoopInduction$Code;", true)
  | 3 => ("LoopInduction", "parser", "LLoopInduction$Parser;", true)
  | 4 => ("LoopInduction", "loop", "LLoopInduction$Loop;", true)
  | 5 => ("LoopInduction", "runs", "LLoopInduction$Runs;", true)
  | 6 => ("LoopInduction", "guesses", "LLoopInduction$Guesses;", true)
  | 7 => ("LoopInduction", "futures", "LLoopInduction$Futures;", true)
  | 8 => ("LoopInduction", "loopGiven", "Z", false)
  | _ => ("LoopInduction", "faultPlace", "I", false)
def t_LI : Nat → FieldType := fun k => match k with
  | 0 => .object "LoopInduction$Tape"
  | 1 => .object "LoopInduction$Tokens"
  | 2 => .object "LoopInduction$Code"
  | 3 => .object "LoopInduction$Parser"
  | 4 => .object "LoopInduction$Loop"
  | 5 => .object "LoopInduction$Runs"
  | 6 => .object "LoopInduction$Guesses"
  | 7 => .object "LoopInduction$Futures"
  | 8 => .boolean
  | _ => .int
theorem n_LI : ∀ a, a < 10 → ∀ b, b < 10 → a ≠ b → (F_LI a).2.1 ≠ (F_LI b).2.1 := by decide +kernel
theorem t_LI_ok : ∀ k, k < 10 → parseFieldDescriptor (F_LI k).2.2.1 = some (t_LI k) := by decide +kernel
def F_Code : u_T := fun k => match k with
  | 0 => ("LoopInduction$Code", "steps", "[I", true)
  | 1 => ("LoopInduction$Code", "starts", "[I", true)
  | 2 => ("LoopInduction$Code", "stops", "[I", true)
  | 3 => ("LoopInduction$Code", "usedBits", "[I", true)
  | 4 => ("LoopInduction$Code", "stack", "[I", true)
  | 5 => ("LoopInduction$Code", "size", "I", false)
  | 6 => ("LoopInduction$Code", "section", "I", false)
  | _ => ("LoopInduction$Code", "height", "I", false)
def t_Code : Nat → FieldType := fun k => match k with
  | 0 => .array .int
  | 1 => .array .int
  | 2 => .array .int
  | 3 => .array .int
  | 4 => .array .int
  | 5 => .int
  | 6 => .int
  | _ => .int
theorem n_Code : ∀ a, a < 8 → ∀ b, b < 8 → a ≠ b → (F_Code a).2.1 ≠ (F_Code b).2.1 := by decide +kernel
theorem t_Code_ok : ∀ k, k < 8 → parseFieldDescriptor (F_Code k).2.2.1 = some (t_Code k) := by decide +kernel
def F_Fut : u_T := fun k => match k with
  | 0 => ("LoopInduction$Futures", "loop", "LLoopInduction$Loop;", true)
  | 1 => ("LoopInduction$Futures", "marks", "[I", true)
  | 2 => ("LoopInduction$Futures", "open", "[I", true)
  | _ => ("LoopInduction$Futures", "work", "LLoopInduction$Worklist;", true)
def t_Fut : Nat → FieldType := fun k => match k with
  | 0 => .object "LoopInduction$Loop"
  | 1 => .array .int
  | 2 => .array .int
  | _ => .object "LoopInduction$Worklist"
theorem n_Fut : ∀ a, a < 4 → ∀ b, b < 4 → a ≠ b → (F_Fut a).2.1 ≠ (F_Fut b).2.1 := by decide +kernel
theorem t_Fut_ok : ∀ k, k < 4 → parseFieldDescriptor (F_Fut k).2.2.1 = some (t_Fut k) := by decide +kernel
def F_Gues : u_T := fun k => match k with
  | 0 => ("LoopInduction$Guesses", "loop", "LLoopInduction$Loop;", true)
  | 1 => ("LoopInduction$Guesses", "rounds", "[I", true)
  | 2 => ("LoopInduction$Guesses", "one", "[I", true)
  | 3 => ("LoopInduction$Guesses", "two", "[I", true)
  | _ => ("LoopInduction$Guesses", "left", "I", false)
def t_Gues : Nat → FieldType := fun k => match k with
  | 0 => .object "LoopInduction$Loop"
  | 1 => .array .int
  | 2 => .array .int
  | 3 => .array .int
  | _ => .int
theorem n_Gues : ∀ a, a < 5 → ∀ b, b < 5 → a ≠ b → (F_Gues a).2.1 ≠ (F_Gues b).2.1 := by decide +kernel
theorem t_Gues_ok : ∀ k, k < 5 → parseFieldDescriptor (F_Gues k).2.2.1 = some (t_Gues k) := by decide +kernel
def F_Loop : u_T := fun k => match k with
  | 0 => ("LoopInduction$Loop", "facts", "[I", true)
  | 1 => ("LoopInduction$Loop", "turns", "[I", true)
  | 2 => ("LoopInduction$Loop", "firstSources", "[I", true)
  | 3 => ("LoopInduction$Loop", "sources", "[I", true)
  | 4 => ("LoopInduction$Loop", "row", "[I", true)
  | 5 => ("LoopInduction$Loop", "choices", "I", false)
  | 6 => ("LoopInduction$Loop", "guesses", "I", false)
  | 7 => ("LoopInduction$Loop", "unaries", "I", false)
  | _ => ("LoopInduction$Loop", "ranked", "Z", false)
def t_Loop : Nat → FieldType := fun k => match k with
  | 0 => .array .int
  | 1 => .array .int
  | 2 => .array .int
  | 3 => .array .int
  | 4 => .array .int
  | 5 => .int
  | 6 => .int
  | 7 => .int
  | _ => .boolean
theorem n_Loop : ∀ a, a < 9 → ∀ b, b < 9 → a ≠ b → (F_Loop a).2.1 ≠ (F_Loop b).2.1 := by decide +kernel
theorem t_Loop_ok : ∀ k, k < 9 → parseFieldDescriptor (F_Loop k).2.2.1 = some (t_Loop k) := by decide +kernel
def F_Pars : u_T := fun k => match k with
  | 0 => ("LoopInduction$Parser", "tokens", "LLoopInduction$Tokens;", true)
  | 1 => ("LoopInduction$Parser", "code", "LLoopInduction$Code;", true)
  | 2 => ("LoopInduction$Parser", "current", "I", false)
  | 3 => ("LoopInduction$Parser", "faulty", "Z", false)
  | 4 => ("LoopInduction$Parser", "unaries", "I", false)
  | 5 => ("LoopInduction$Parser", "choices", "I", false)
  | _ => ("LoopInduction$Parser", "guesses", "I", false)
def t_Pars : Nat → FieldType := fun k => match k with
  | 0 => .object "LoopInduction$Tokens"
  | 1 => .object "LoopInduction$Code"
  | 2 => .int
  | 3 => .boolean
  | 4 => .int
  | 5 => .int
  | _ => .int
theorem n_Pars : ∀ a, a < 7 → ∀ b, b < 7 → a ≠ b → (F_Pars a).2.1 ≠ (F_Pars b).2.1 := by decide +kernel
theorem t_Pars_ok : ∀ k, k < 7 → parseFieldDescriptor (F_Pars k).2.2.1 = some (t_Pars k) := by decide +kernel
def F_Runs : u_T := fun k => match k with
  | 0 => ("LoopInduction$Runs", "loop", "LLoopInduction$Loop;", true)
  | 1 => ("LoopInduction$Runs", "levels", "[I", true)
  | 2 => ("LoopInduction$Runs", "path", "[I", true)
  | 3 => ("LoopInduction$Runs", "one", "[I", true)
  | 4 => ("LoopInduction$Runs", "two", "[I", true)
  | 5 => ("LoopInduction$Runs", "work", "LLoopInduction$Worklist;", true)
  | 6 => ("LoopInduction$Runs", "reached", "I", false)
  | 7 => ("LoopInduction$Runs", "greatestLevel", "I", false)
  | _ => ("LoopInduction$Runs", "pathSize", "I", false)
def t_Runs : Nat → FieldType := fun k => match k with
  | 0 => .object "LoopInduction$Loop"
  | 1 => .array .int
  | 2 => .array .int
  | 3 => .array .int
  | 4 => .array .int
  | 5 => .object "LoopInduction$Worklist"
  | 6 => .int
  | 7 => .int
  | _ => .int
theorem n_Runs : ∀ a, a < 9 → ∀ b, b < 9 → a ≠ b → (F_Runs a).2.1 ≠ (F_Runs b).2.1 := by decide +kernel
theorem t_Runs_ok : ∀ k, k < 9 → parseFieldDescriptor (F_Runs k).2.2.1 = some (t_Runs k) := by decide +kernel
def F_Scr : u_T := fun k => match k with
  | 0 => ("LoopInduction$Scratch", "one", "[I", true)
  | 1 => ("LoopInduction$Scratch", "two", "[I", true)
  | _ => ("LoopInduction$Scratch", "work", "LLoopInduction$Worklist;", true)
def t_Scr : Nat → FieldType := fun k => match k with
  | 0 => .array .int
  | 1 => .array .int
  | _ => .object "LoopInduction$Worklist"
theorem n_Scr : ∀ a, a < 3 → ∀ b, b < 3 → a ≠ b → (F_Scr a).2.1 ≠ (F_Scr b).2.1 := by decide +kernel
theorem t_Scr_ok : ∀ k, k < 3 → parseFieldDescriptor (F_Scr k).2.2.1 = some (t_Scr k) := by decide +kernel
def F_Tape : u_T := fun k => match k with
  | 0 => ("LoopInduction$Tape", "bytes", "[B", true)
  | _ => ("LoopInduction$Tape", "size", "I", false)
def t_Tape : Nat → FieldType := fun k => match k with
  | 0 => .array .byte
  | _ => .int
theorem n_Tape : ∀ a, a < 2 → ∀ b, b < 2 → a ≠ b → (F_Tape a).2.1 ≠ (F_Tape b).2.1 := by decide +kernel
theorem t_Tape_ok : ∀ k, k < 2 → parseFieldDescriptor (F_Tape k).2.2.1 = some (t_Tape k) := by decide +kernel
def F_Tok : u_T := fun k => match k with
  | 0 => ("LoopInduction$Tokens", "tape", "LLoopInduction$Tape;", true)
  | 1 => ("LoopInduction$Tokens", "kinds", "[I", true)
  | 2 => ("LoopInduction$Tokens", "values", "[I", true)
  | 3 => ("LoopInduction$Tokens", "places", "[I", true)
  | 4 => ("LoopInduction$Tokens", "count", "I", false)
  | 5 => ("LoopInduction$Tokens", "start", "I", false)
  | _ => ("LoopInduction$Tokens", "stop", "I", false)
def t_Tok : Nat → FieldType := fun k => match k with
  | 0 => .object "LoopInduction$Tape"
  | 1 => .array .int
  | 2 => .array .int
  | 3 => .array .int
  | 4 => .int
  | 5 => .int
  | _ => .int
theorem n_Tok : ∀ a, a < 7 → ∀ b, b < 7 → a ≠ b → (F_Tok a).2.1 ≠ (F_Tok b).2.1 := by decide +kernel
theorem t_Tok_ok : ∀ k, k < 7 → parseFieldDescriptor (F_Tok k).2.2.1 = some (t_Tok k) := by decide +kernel
def F_Work : u_T := fun k => match k with
  | 0 => ("LoopInduction$Worklist", "items", "[I", true)
  | _ => ("LoopInduction$Worklist", "size", "I", false)
def t_Work : Nat → FieldType := fun k => match k with
  | 0 => .array .int
  | _ => .int
theorem n_Work : ∀ a, a < 2 → ∀ b, b < 2 → a ≠ b → (F_Work a).2.1 ≠ (F_Work b).2.1 := by decide +kernel
theorem t_Work_ok : ∀ k, k < 2 → parseFieldDescriptor (F_Work k).2.2.1 = some (t_Work k) := by decide +kernel
def F_Md : u_T := fun k => match k with
  | 0 => ("LoopInductionModel", "tape", "[B", true)
  | 1 => ("LoopInductionModel", "size", "I", false)
  | 2 => ("LoopInductionModel", "at", "I", false)
  | 3 => ("LoopInductionModel", "token", "I", false)
  | 4 => ("LoopInductionModel", "tokenPlace", "I", false)
  | 5 => ("LoopInductionModel", "number", "I", false)
  | 6 => ("LoopInductionModel", "sign", "I", false)
  | 7 => ("LoopInductionModel", "bad", "Z", false)
  | 8 => ("LoopInductionModel", "faultPlace", "I", false)
  | 9 => ("LoopInductionModel", "place", "I", false)
  | 10 => ("LoopInductionModel", "acts", "[I", true)
  | 11 => ("LoopInductionModel", "actNumbers", "[I", true)
  | 12 => ("LoopInductionModel", "actCounts", "[I", true)
  | 13 => ("LoopInductionModel", "bank", "I", false)
  | 14 => ("LoopInductionModel", "unaries", "I", false)
  | 15 => ("LoopInductionModel", "opens", "I", false)
  | 16 => ("LoopInductionModel", "pile", "[I", true)
  | 17 => ("LoopInductionModel", "piled", "I", false)
  | 18 => ("LoopInductionModel", "loop", "I", false)
  | 19 => ("LoopInductionModel", "begins", "[I", true)
  | 20 => ("LoopInductionModel", "goals", "[I", true)
  | 21 => ("LoopInductionModel", "ranks", "[I", true)
  | 22 => ("LoopInductionModel", "choiceCounts", "[I", true)
  | 23 => ("LoopInductionModel", "whens", "[I", true)
  | 24 => ("LoopInductionModel", "becomes", "[I", true)
  | 25 => ("LoopInductionModel", "guessCounts", "[I", true)
  | 26 => ("LoopInductionModel", "guesses", "[I", true)
  | 27 => ("LoopInductionModel", "unaryCounts", "[I", true)
  | 28 => ("LoopInductionModel", "stack", "[I", true)
  | 29 => ("LoopInductionModel", "nexts", "[I", true)
  | 30 => ("LoopInductionModel", "isBegin", "[Z", true)
  | 31 => ("LoopInductionModel", "isGoal", "[Z", true)
  | 32 => ("LoopInductionModel", "levels", "[I", true)
  | 33 => ("LoopInductionModel", "queue", "[I", true)
  | 34 => ("LoopInductionModel", "hasGuesses", "[I", true)
  | 35 => ("LoopInductionModel", "keptBits", "I", false)
  | 36 => ("LoopInductionModel", "rounds", "[I", true)
  | 37 => ("LoopInductionModel", "marked", "[Z", true)
  | 38 => ("LoopInductionModel", "other", "[Z", true)
  | _ => ("LoopInductionModel", "heights", "[I", true)
def t_Md : Nat → FieldType := fun k => match k with
  | 0 => .array .byte
  | 1 => .int
  | 2 => .int
  | 3 => .int
  | 4 => .int
  | 5 => .int
  | 6 => .int
  | 7 => .boolean
  | 8 => .int
  | 9 => .int
  | 10 => .array .int
  | 11 => .array .int
  | 12 => .array .int
  | 13 => .int
  | 14 => .int
  | 15 => .int
  | 16 => .array .int
  | 17 => .int
  | 18 => .int
  | 19 => .array .int
  | 20 => .array .int
  | 21 => .array .int
  | 22 => .array .int
  | 23 => .array .int
  | 24 => .array .int
  | 25 => .array .int
  | 26 => .array .int
  | 27 => .array .int
  | 28 => .array .int
  | 29 => .array .int
  | 30 => .array .boolean
  | 31 => .array .boolean
  | 32 => .array .int
  | 33 => .array .int
  | 34 => .array .int
  | 35 => .int
  | 36 => .array .int
  | 37 => .array .boolean
  | 38 => .array .boolean
  | _ => .array .int
theorem n_Md : ∀ a, a < 40 → ∀ b, b < 40 → a ≠ b → (F_Md a).2.1 ≠ (F_Md b).2.1 := by decide +kernel
theorem t_Md_ok : ∀ k, k < 40 → parseFieldDescriptor (F_Md k).2.2.1 = some (t_Md k) := by decide +kernel
abbrev vwCl : List vw_C := [("LoopInduction", F_LI, 10), ("LoopInduction$Code", F_Code, 8), ("LoopInduction$Futures", F_Fut, 4), ("LoopInduction$Guesses", F_Gues, 5), ("LoopInduction$Loop", F_Loop, 9), ("LoopInduction$Parser", F_Pars, 7), ("LoopInduction$Runs", F_Runs, 9), ("LoopInduction$Scratch", F_Scr, 3), ("LoopInduction$Tape", F_Tape, 2), ("LoopInduction$Tokens", F_Tok, 7), ("LoopInduction$Worklist", F_Work, 2), ("LoopInductionModel", F_Md, 40)]
/-- all words that every method may use -/
def allW : List Cond := lw_tbl.filter goodWord
theorem mem_all {w : Cond} (i : Nat) (h : lw_tbl[i]? = some w) (hg : goodWord w = true) : w ∈ allW := List.mem_filter.mpr ⟨List.mem_of_getElem? h, hg⟩
theorem all_good : ∀ w ∈ allW, goodWord w = true := fun w h => (List.mem_filter.mp h).2
theorem ga_ {c0 c1 : Cond} (h1 : c1 ∈ allW) : GoodIn (c0 :: allW) (c1 :: allW) := fun w hw => by
  have hm : w ∈ allW := by
    rcases List.mem_cons.mp hw with rfl | h
    · exact h1
    · exact h
  exact ⟨List.mem_cons_of_mem _ hm, good_of_word (all_good w hm)⟩
theorem gc_ {c0 w : Cond} (h : w ∈ allW) : w ∈ c0 :: allW ∧ ((w.onTables && w.keeps) = true ∨ ∃ ty, w = .arrayClass ty) := ⟨List.mem_cons_of_mem _ h, good_of_word (all_good w h)⟩
theorem gv_ {c0 : Cond} {own C : String} {ix n : Nat} {y : MethodName} {b : ByteArray} {r : Option FieldType} (h1 : .methodLink own ix y ∈ allW) (h2 : .instanceMethod y ∈ allW) (h3 : .selects C y y ∈ allW) (h4 : .initialized C ∈ allW) (h5 : .code y b n r ∈ allW) : GoodIn (c0 :: allW) (wsV own ix C y (.code y b n r :: allW)) := fun w hw => by
  rcases List.mem_append.mp hw with h | h
  · simp only [List.mem_cons, List.not_mem_nil, or_false] at h
    rcases h with rfl | rfl | rfl | rfl
    · exact gc_ h1
    · exact gc_ h2
    · exact gc_ h3
    · exact gc_ h4
  · exact ga_ h5 w h
theorem gs_ {c0 : Cond} {own : String} {ix n : Nat} {y : MethodName} {b : ByteArray} {r : Option FieldType} (h1 : .methodLink own ix y ∈ allW) (h2 : .static y ∈ allW) (h4 : .initialized own ∈ allW) (h5 : .code y b n r ∈ allW) : GoodIn (c0 :: allW) (wsS own ix y (.code y b n r :: allW)) := fun w hw => by
  rcases List.mem_append.mp hw with h | h
  · simp only [List.mem_cons, List.not_mem_nil, or_false] at h
    rcases h with rfl | rfl | rfl
    · exact gc_ h1
    · exact gc_ h2
    · exact gc_ h4
  · exact ga_ h5 w h
/-- the class's text constants: how many, whose, their entries, texts, lengths, bytes -/
abbrev nS : Nat := 10
def ownS : String := "LoopInduction$Tokens"
def ixS : List Nat := [81, 87, 89, 91, 93, 95, 97, 99, 101, 71]
def txS : List String := ["begin", "when", "do", "goal", "guess", "rank", "or", "and", "not", ";,=<#+-*()[]"]
def lenS : List Nat := [5, 4, 2, 4, 5, 4, 2, 3, 3, 12]
def bytS : List (List Int32) := [[98, 101, 103, 105, 110], [119, 104, 101, 110], [100, 111], [103, 111, 97, 108], [103, 117, 101, 115, 115], [114, 97, 110, 107], [111, 114], [97, 110, 100], [110, 111, 116], [59, 44, 61, 60, 35, 43, 45, 42, 40, 41, 91, 93]]
def nwL : List Cond := [.methodLinkNest "LoopInduction" 9 ⟨"LoopInduction$Tape", "<init>", "()V"⟩ "LoopInduction", .methodLinkNest "LoopInduction" 27 ⟨"LoopInduction$Code", "<init>", "()V"⟩ "LoopInduction", .methodLinkNest "LoopInduction" 43 ⟨"LoopInduction$Scratch", "<init>", "()V"⟩ "LoopInduction", .methodLinkNest "LoopInduction$Scratch" 20 ⟨"LoopInduction$Worklist", "<init>", "()V"⟩ "LoopInduction", .methodLinkNest "LoopInduction$Loop" 47 ⟨"LoopInduction", "isState", "(I)Z"⟩ "LoopInduction", .methodLinkNest "LoopInduction$Runs" 61 ⟨"LoopInduction", "isState", "(I)Z"⟩ "LoopInduction", .methodLinkNest "LoopInduction$Guesses" 95 ⟨"LoopInduction", "isState", "(I)Z"⟩ "LoopInduction", .methodLinkNest "LoopInduction$Futures" 88 ⟨"LoopInduction", "isState", "(I)Z"⟩ "LoopInduction"]
theorem nw_moved {s U : State} (hW : s.WarmedH U.vm) (h : ∀ w ∈ nwL, va_Nw w s) : ∀ w ∈ nwL, va_Nw w U := by
  intro w hw
  have h1 := h w hw
  simp only [nwL, List.mem_cons, List.not_mem_nil, or_false] at hw
  rcases hw with rfl | rfl | rfl | rfl | rfl | rfl | rfl | rfl <;> exact va_Nw.warmM hW h1
