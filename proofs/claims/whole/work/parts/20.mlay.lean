/-! the model: where its cells lie, their shapes, its pointers -/
abbrev aM : Int := 95
abbrev a_c : Int := 96
abbrev a_whole : Int := 97
abbrev a_worths : Int := 98
abbrev a_what : Int := 99
abbrev a_pointOf : Int := 100
abbrev a_table : Int := 101
abbrev a_sign : Int := 102
abbrev a_crossings : Int := 103
abbrev a_rounds : Int := 104
abbrev a_diagramOf : Int := 105
abbrev a_mate : Int := 106
abbrev a_codes : Int := 107
abbrev a_moved : Int := 108
abbrev a_places : Int := 109
abbrev a_key : Int := 110
abbrev a_sorted : Int := 111
abbrev a_least : Int := 112
abbrev a_names : Int := 113
abbrev a_held : Int := 114
abbrev a_subs : Int := 115
abbrev a_out : Int := 116
abbrev a_tape : Int := 117
abbrev a_words : Int := 118
abbrev a_wantedMate : Int := 119
abbrev a_toldCodes : Int := 120
def mSh : List (Int × Nat × Int) := [(aM, 18, 54), (a_c, 1, 104), (a_whole, 1, 104), (a_worths, 1, 800), (a_what, 1, 12), (a_pointOf, 1, 12), (a_table, 1, 124740), (a_sign, 1, 10395), (a_crossings, 1, 10395), (a_rounds, 1, 10395), (a_diagramOf, 1, 10395), (a_mate, 1, 12), (a_codes, 1, 6), (a_moved, 1, 6), (a_places, 1, 8), (a_key, 2, 10395), (a_sorted, 2, 10395), (a_least, 2, 10395), (a_names, 2, 10395), (a_held, 1, 9), (a_subs, 1, 4), (a_out, 1, 100), (a_tape, 3, 400), (a_words, 2, 8), (a_wantedMate, 1, 12), (a_toldCodes, 1, 6)]
def mPt : List (Int × Int) := [(0, a_c), (1, a_whole), (2, a_worths), (5, a_what), (6, a_pointOf), (7, a_table), (8, a_sign), (9, a_crossings), (10, a_rounds), (11, a_diagramOf), (16, a_mate), (18, a_codes), (19, a_moved), (20, a_places), (25, a_key), (26, a_sorted), (27, a_least), (28, a_names), (31, a_held), (32, a_subs), (34, a_out), (36, a_tape), (51, a_words), (52, a_wantedMate), (53, a_toldCodes)]
/-- the model's cells have their shapes -/
def shM (E : zE) : Prop := ∀ q ∈ mSh, E.1 q.1 = q.2
/-- the model's pointers are as its constructor made them -/
def ptM (m : zM) : Prop := ∀ q ∈ mPt, m aM q.1 = q.2
theorem sh_M {E : zE} (h : shM E) : E.1 aM = (18, 54) := h (aM, 18, 54) (by simp [mSh])
theorem sh_c {E : zE} (h : shM E) : E.1 a_c = (1, 104) := h _ (List.mem_of_getElem? (i := 1) rfl)
theorem pt_c {m : zM} (h : ptM m) : m aM 0 = a_c := h _ (List.mem_of_getElem? (i := 0) rfl)
theorem sh_whole {E : zE} (h : shM E) : E.1 a_whole = (1, 104) := h _ (List.mem_of_getElem? (i := 2) rfl)
theorem pt_whole {m : zM} (h : ptM m) : m aM 1 = a_whole := h _ (List.mem_of_getElem? (i := 1) rfl)
theorem sh_worths {E : zE} (h : shM E) : E.1 a_worths = (1, 800) := h _ (List.mem_of_getElem? (i := 3) rfl)
theorem pt_worths {m : zM} (h : ptM m) : m aM 2 = a_worths := h _ (List.mem_of_getElem? (i := 2) rfl)
theorem sh_what {E : zE} (h : shM E) : E.1 a_what = (1, 12) := h _ (List.mem_of_getElem? (i := 4) rfl)
theorem pt_what {m : zM} (h : ptM m) : m aM 5 = a_what := h _ (List.mem_of_getElem? (i := 3) rfl)
theorem sh_pointOf {E : zE} (h : shM E) : E.1 a_pointOf = (1, 12) := h _ (List.mem_of_getElem? (i := 5) rfl)
theorem pt_pointOf {m : zM} (h : ptM m) : m aM 6 = a_pointOf := h _ (List.mem_of_getElem? (i := 4) rfl)
theorem sh_table {E : zE} (h : shM E) : E.1 a_table = (1, 124740) := h _ (List.mem_of_getElem? (i := 6) rfl)
theorem pt_table {m : zM} (h : ptM m) : m aM 7 = a_table := h _ (List.mem_of_getElem? (i := 5) rfl)
theorem sh_sign {E : zE} (h : shM E) : E.1 a_sign = (1, 10395) := h _ (List.mem_of_getElem? (i := 7) rfl)
theorem pt_sign {m : zM} (h : ptM m) : m aM 8 = a_sign := h _ (List.mem_of_getElem? (i := 6) rfl)
theorem sh_crossings {E : zE} (h : shM E) : E.1 a_crossings = (1, 10395) := h _ (List.mem_of_getElem? (i := 8) rfl)
theorem pt_crossings {m : zM} (h : ptM m) : m aM 9 = a_crossings := h _ (List.mem_of_getElem? (i := 7) rfl)
theorem sh_rounds {E : zE} (h : shM E) : E.1 a_rounds = (1, 10395) := h _ (List.mem_of_getElem? (i := 9) rfl)
theorem pt_rounds {m : zM} (h : ptM m) : m aM 10 = a_rounds := h _ (List.mem_of_getElem? (i := 8) rfl)
theorem sh_diagramOf {E : zE} (h : shM E) : E.1 a_diagramOf = (1, 10395) := h _ (List.mem_of_getElem? (i := 10) rfl)
theorem pt_diagramOf {m : zM} (h : ptM m) : m aM 11 = a_diagramOf := h _ (List.mem_of_getElem? (i := 9) rfl)
theorem sh_mate {E : zE} (h : shM E) : E.1 a_mate = (1, 12) := h _ (List.mem_of_getElem? (i := 11) rfl)
theorem pt_mate {m : zM} (h : ptM m) : m aM 16 = a_mate := h _ (List.mem_of_getElem? (i := 10) rfl)
theorem sh_codes {E : zE} (h : shM E) : E.1 a_codes = (1, 6) := h _ (List.mem_of_getElem? (i := 12) rfl)
theorem pt_codes {m : zM} (h : ptM m) : m aM 18 = a_codes := h _ (List.mem_of_getElem? (i := 11) rfl)
theorem sh_moved {E : zE} (h : shM E) : E.1 a_moved = (1, 6) := h _ (List.mem_of_getElem? (i := 13) rfl)
theorem pt_moved {m : zM} (h : ptM m) : m aM 19 = a_moved := h _ (List.mem_of_getElem? (i := 12) rfl)
theorem sh_places {E : zE} (h : shM E) : E.1 a_places = (1, 8) := h _ (List.mem_of_getElem? (i := 14) rfl)
theorem pt_places {m : zM} (h : ptM m) : m aM 20 = a_places := h _ (List.mem_of_getElem? (i := 13) rfl)
theorem sh_key {E : zE} (h : shM E) : E.1 a_key = (2, 10395) := h _ (List.mem_of_getElem? (i := 15) rfl)
theorem pt_key {m : zM} (h : ptM m) : m aM 25 = a_key := h _ (List.mem_of_getElem? (i := 14) rfl)
theorem sh_sorted {E : zE} (h : shM E) : E.1 a_sorted = (2, 10395) := h _ (List.mem_of_getElem? (i := 16) rfl)
theorem pt_sorted {m : zM} (h : ptM m) : m aM 26 = a_sorted := h _ (List.mem_of_getElem? (i := 15) rfl)
theorem sh_least {E : zE} (h : shM E) : E.1 a_least = (2, 10395) := h _ (List.mem_of_getElem? (i := 17) rfl)
theorem pt_least {m : zM} (h : ptM m) : m aM 27 = a_least := h _ (List.mem_of_getElem? (i := 16) rfl)
theorem sh_names {E : zE} (h : shM E) : E.1 a_names = (2, 10395) := h _ (List.mem_of_getElem? (i := 18) rfl)
theorem pt_names {m : zM} (h : ptM m) : m aM 28 = a_names := h _ (List.mem_of_getElem? (i := 17) rfl)
theorem sh_held {E : zE} (h : shM E) : E.1 a_held = (1, 9) := h _ (List.mem_of_getElem? (i := 19) rfl)
theorem pt_held {m : zM} (h : ptM m) : m aM 31 = a_held := h _ (List.mem_of_getElem? (i := 18) rfl)
theorem sh_subs {E : zE} (h : shM E) : E.1 a_subs = (1, 4) := h _ (List.mem_of_getElem? (i := 20) rfl)
theorem pt_subs {m : zM} (h : ptM m) : m aM 32 = a_subs := h _ (List.mem_of_getElem? (i := 19) rfl)
theorem sh_out {E : zE} (h : shM E) : E.1 a_out = (1, 100) := h _ (List.mem_of_getElem? (i := 21) rfl)
theorem pt_out {m : zM} (h : ptM m) : m aM 34 = a_out := h _ (List.mem_of_getElem? (i := 20) rfl)
theorem sh_tape {E : zE} (h : shM E) : E.1 a_tape = (3, 400) := h _ (List.mem_of_getElem? (i := 22) rfl)
theorem pt_tape {m : zM} (h : ptM m) : m aM 36 = a_tape := h _ (List.mem_of_getElem? (i := 21) rfl)
theorem sh_words {E : zE} (h : shM E) : E.1 a_words = (2, 8) := h _ (List.mem_of_getElem? (i := 23) rfl)
theorem pt_words {m : zM} (h : ptM m) : m aM 51 = a_words := h _ (List.mem_of_getElem? (i := 22) rfl)
theorem sh_wantedMate {E : zE} (h : shM E) : E.1 a_wantedMate = (1, 12) := h _ (List.mem_of_getElem? (i := 24) rfl)
theorem pt_wantedMate {m : zM} (h : ptM m) : m aM 52 = a_wantedMate := h _ (List.mem_of_getElem? (i := 23) rfl)
theorem sh_toldCodes {E : zE} (h : shM E) : E.1 a_toldCodes = (1, 6) := h _ (List.mem_of_getElem? (i := 25) rfl)
theorem pt_toldCodes {m : zM} (h : ptM m) : m aM 53 = a_toldCodes := h _ (List.mem_of_getElem? (i := 24) rfl)
theorem ptM_a {m : zM} {a j x : Int} (h : ptM m) (ha : aM ≠ a) : ptM (zu m a j x) := fun q hq => by rw [zu_a ha]; exact h q hq
theorem ptM_j {m : zM} {j x : Int} (h : ptM m) (hj : ∀ q ∈ mPt, q.1 ≠ j) : ptM (zu m aM j x) := fun q hq => by rw [zu_j (hj q hq)]; exact h q hq
theorem ptM_of {m m' : zM} (h : ptM m) (he : ∀ j, m' aM j = m aM j) : ptM m' := fun q hq => by rw [he]; exact h q hq
abbrev f_status : Int := 3
abbrev f_thrown : Int := 4
abbrev f_letters : Int := 12
abbrev f_laid : Int := 13
abbrev f_isLaid : Int := 14
abbrev f_isNamed : Int := 15
abbrev f_among : Int := 17
abbrev f_lines : Int := 21
abbrev f_leastName : Int := 22
abbrev f_wantedName : Int := 23
abbrev f_sameNames : Int := 24
abbrev f_keys : Int := 29
abbrev f_diagrams : Int := 30
abbrev f_subPoints : Int := 33
abbrev f_outMany : Int := 35
abbrev f_taped : Int := 37
abbrev f_faultKind : Int := 38
abbrev f_faultAt : Int := 39
abbrev f_wrong : Int := 40
abbrev f_wrongAt : Int := 41
abbrev f_place : Int := 42
abbrev f_next : Int := 43
abbrev f_sort : Int := 44
abbrev f_number : Int := 45
abbrev f_size : Int := 46
abbrev f_wide : Int := 47
abbrev f_end : Int := 48
abbrev f_withNumbers : Int := 49
abbrev f_word : Int := 50
